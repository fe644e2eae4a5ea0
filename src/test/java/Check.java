/** What the tests share: telling texts to a RungHouse and counting the answers that are not due. */
class Check {
  static final int NONE = -1, UNKNOWN = -1000000001, OUTSIDE = -1000000002, NOT = -1000000003, FULL = -1000000004;

  private int answers = 0;
  private int wrong = 0;

  void due(String what, long got, long want) {
    answers++;
    if (got != want) {
      wrong++;
      System.out.println(what + ": answered " + got + ", due is " + want);
    }
  }

  /** Feeds a text, eight bytes a call. */
  static RungHouse tell(RungHouse x, String text) {
    for (int i = 0; i < text.length(); i += 8) {
      int n = Math.min(8, text.length() - i);
      long bytes = 0;
      for (int j = 0; j < n; j++) bytes = bytes << 8 | text.charAt(i + j);
      x.feed(n, bytes);
    }
    return x;
  }

  RungHouse withHouse(RungHouse x, int h, String text) {
    int answer = tell(x, text).house(h);
    if (answer < 1) due("house " + text, answer, 1);
    return x;
  }

  RungHouse withSort(RungHouse x, String text) {
    due("sort " + text, tell(x, text).sort(), x.count(0) - 1);
    return x;
  }

  RungHouse withRule(RungHouse x, String text) {
    due("rule " + text, tell(x, text).rule(), x.count(1) - 1);
    return x;
  }

  void close(String name) {
    System.out.println(name + ": " + answers + " answers, " + wrong + " not as due");
    if (wrong != 0) System.exit(1);
  }
}
