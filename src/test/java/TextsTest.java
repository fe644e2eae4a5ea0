/** Promises 1 to 10 and 31: texts, their faults byte by byte, and what they told. */
public final class TextsTest {
  private static final Check c = new Check();
  private static final String TEN = "rung 1;".repeat(10);

  public static void main(String[] args) {
    newObject();
    feed();
    houses();
    houseFaults();
    sorts();
    sortFaults();
    rules();
    ruleFaults();
    faultStays();
    told();
    next();
    scrapes();
    c.close("TextsTest");
  }

  private static void newObject() {
    RungHouse x = new RungHouse();
    for (int what = 0; what <= 4; what++) c.due("new: count " + what, x.count(what), 0);
    c.due("new: count -1", x.count(-1), Check.OUTSIDE);
    c.due("new: count 5", x.count(5), Check.OUTSIDE);
    c.due("new: fault", x.fault(), Check.NONE);
    for (int h = -1; h <= 2; h++) {
      c.due("new: told", x.told(h, 0), Check.UNKNOWN);
      c.due("new: pays", x.pays(h, 0), Check.UNKNOWN);
      c.due("new: next", x.next(h, 0, 0), Check.UNKNOWN);
    }
    c.due("new: scrapes", x.scrapes(0, 0), Check.UNKNOWN);
    c.due("new: goBack", x.goBack(0), Check.NOT);
    c.due("new: seed", x.seed(0), 0);
    c.due("new: clear", x.clear(), 0);
  }

  private static void feed() {
    RungHouse x = new RungHouse();
    c.due("feed 0", x.feed(0, 1), Check.OUTSIDE);
    c.due("feed 9", x.feed(9, 1), Check.OUTSIDE);
    c.due("feed -1", x.feed(-1, 1), Check.OUTSIDE);
    c.due("feed least", x.feed(Integer.MIN_VALUE, 1), Check.OUTSIDE);
    // 'rung 7;' with other bytes above the seven that count
    c.due("feed 7", x.feed(7, 0xff72756e6720373bL), 7);
    c.due("feed house", x.house(0), 1);
    c.due("feed pays", x.pays(0, 0), 7);
    for (int i = 1; i <= 37; i++) c.due("feed 8", x.feed(8, 0x2020202020202020L), 8 * i);
    c.due("feed 5 of 4", x.feed(5, 0), Check.FULL);
    c.due("feed 4 of 4", x.feed(4, 0x20202020L), 300);
    c.due("feed 1 of 0", x.feed(1, 0), Check.FULL);
    c.due("feed 0 of 0", x.feed(0, 0), Check.OUTSIDE);
    c.due("feed count", x.count(4), 300);
    c.due("300 blanks", x.house(0), -15);
    c.due("300 blanks: fault", x.fault(), 300);
    c.due("empty then", x.count(4), 0);
    c.due("the highest bit", x.feed(1, -1), 1);
    c.due("byte 255", x.house(0), -11);
    c.due("byte 255: fault", x.fault(), 0);
  }

  private static void house(String text, int answer, int fault) {
    RungHouse x = Check.tell(new RungHouse(), text);
    c.due("house '" + text + "'", x.house(0), answer);
    c.due("house '" + text + "' fault", x.fault(), fault);
    c.due("house '" + text + "' count", x.count(4), 0);
    c.due("house '" + text + "' is", x.told(0, 0), answer < 0 ? Check.UNKNOWN : answer);
  }

  private static void houses() {
    house("rung 0;", 1, -1);
    house("rung999kept;", 1, -1);
    house("rung 007;", 1, -1);
    house("  rung   5   kept  ;  ", 1, -1);
    house("up9;down9;first99;enter9;" + TEN, 10, -1);
    house("enter 1;rung 1;rung 2;", 2, -1);
    house("rung 1;first 0;up 1;down 1;enter 0;", 1, -1);
    RungHouse x = Check.tell(new RungHouse(), "rung 5;");
    c.due("house 2", x.house(2), Check.UNKNOWN);
    c.due("house -1", x.house(-1), Check.UNKNOWN);
    c.due("text stays", x.count(4), 7);
    c.due("house 1", x.house(1), 1);
    c.due("house 0 is not", x.told(0, 0), Check.UNKNOWN);
    c.due("fed again", x.feed(1, ';'), 1);
    c.due("house with fault", x.house(1), -11);
    c.due("as it was", x.pays(1, 0), 5);
    c.due("anew", Check.tell(x, "rung 8;rung 9;up 2;").house(1), 2);
    c.due("anew pays", x.pays(1, 1), 9);
    c.due("anew up", x.told(1, 1), 2);
    c.due("once more", Check.tell(x, "rung 3;").house(1), 1);
    c.due("up is untold again", x.told(1, 1), 1);
    c.due("one rung now", x.pays(1, 1), Check.UNKNOWN);
  }

  private static void houseFaults() {
    house("", -15, 0);
    house("   ", -15, 3);
    house("up 1;  ", -15, 7);
    house("rung 1;enter 1;", -15, 15);
    house("enter 9;rung 1;", -15, 15);
    house(";", -11, 0);
    house("rung 1;;", -11, 7);
    house("rung", -11, 4);
    house("rung  ", -11, 6);
    house("rung 1", -11, 6);
    house("rung 1 ", -11, 7);
    house("rung 1 kept", -11, 11);
    house("rung 1 kept kept;", -11, 12);
    house("rung kept;", -11, 5);
    house("rung;", -11, 4);
    house("rung 1 2;", -11, 7);
    house("rung 1 2000;", -11, 7);
    house("run 1;", -11, 0);
    house("run", -11, 0);
    house("sung 1;", -11, 0);
    house("rungz 1;", -11, 0);
    house("rung a;", -11, 5);
    house("rung 1;zap;", -11, 7);
    house("rung 1;ru", -11, 7);
    house("Rung 1;", -11, 0);
    house("rUng 1;", -11, 0);
    house("rungkept 1;", -11, 0);
    house("rung 1kep;", -11, 6);
    house("rung\t1;", -11, 4);
    house("rung -1;", -11, 5);
    house("7;", -11, 0);
    house("1000;", -11, 0);
    house("rung 1;kept;", -11, 7);
    house("up 1 kept;rung 1;", -11, 5);
    house("scrape 1 1;", -11, 0);
    house("rung 1000;", -12, 5);
    house("rung 0001;", -12, 5);
    house("rung " + "9".repeat(200) + ";", -12, 5);
    house("rung 99999999999999999999x", -12, 5);
    house("up 0;", -12, 3);
    house("up 10;", -12, 3);
    house("down 0;", -12, 5);
    house("down 10;", -12, 5);
    house("first 100;", -12, 6);
    house("enter 10;", -12, 6);
    house("rung 1;up 2;down 3;up 4;", -13, 19);
    house("down 1;down 0;", -13, 7);
    house("first 1; first", -13, 9);
    house("enter 0;enter 0;", -13, 8);
    house("up 1;ups 1;", -11, 5);
    house(TEN + "rung 1;", -13, 70);
    house(TEN + "  rung", -13, 72);
    house(TEN + "rungs", -11, 70);
  }

  private static void sort(String text, int answer, int fault) {
    RungHouse x = Check.tell(new RungHouse(), text);
    c.due("sort '" + text + "'", x.sort(), answer);
    c.due("sort '" + text + "' fault", x.fault(), fault);
    c.due("sort '" + text + "' count", x.count(4), 0);
    c.due("sort '" + text + "' sorts", x.count(0), answer < 0 ? 0 : 1);
  }

  private static void sorts() {
    sort("scrape 1 1;", 0, -1);
    sort("scrape999 999;", 0, -1);
    sort("pains 0 0;scrape 5 500;scrape 6 500;", 0, -1);
    sort("scrape 1 1;scrape 2 1;scrape 3 1;scrape 4 1;scrape 5 1;scrape 6 1;scrape 7 1;scrape 8 993;pains 999 100;", 0, -1);
    RungHouse x = Check.tell(new RungHouse(), " ".repeat(190) + "scrape 1 1;");
    c.due("201 bytes", x.sort(), Check.NOT);
    c.due("201 bytes stay", x.count(4), 201);
    c.due("201 bytes of a house", x.house(0), -11);
    c.due("201 bytes: fault", x.fault(), 190);
    c.due("200 bytes", Check.tell(x, " ".repeat(189) + "scrape 1 1;").sort(), 0);
    for (int i = 1; i < 4; i++) c.due("sort " + i, Check.tell(x, "scrape " + i + " 1;").sort(), i);
    c.due("fifth", Check.tell(x, "oh").sort(), Check.FULL);
    c.due("fifth stays", x.count(4), 2);
    c.due("fifth: no fault", x.fault(), Check.NONE);
    c.due("NOT ahead of FULL", Check.tell(x, " ".repeat(200)).sort(), Check.NOT);
    c.due("four sorts", x.count(0), 4);
    c.due("each its own", x.scrapes(3, 4), 3);
  }

  private static void sortFaults() {
    sort("", -15, 0);
    sort("pains 1 1; ", -15, 11);
    sort("scrape", -11, 6);
    sort("scrape 1", -11, 8);
    sort("scrape 1 1", -11, 10);
    sort("scrape 1;", -11, 8);
    sort("scrape 1 1 1;", -11, 11);
    sort("scrape 1 1 kept;", -11, 11);
    sort("pains 1;", -11, 7);
    sort("scrapes 1 1;", -11, 0);
    sort("rung 1;", -11, 0);
    sort("scrape 0 1;", -12, 7);
    sort("scrape 1000 1;", -12, 7);
    sort("scrape 1 0;", -12, 9);
    sort("scrape 1 1000;", -12, 9);
    sort("scrape 5 1;scrape 4 1;", -12, 18);
    sort("scrape 5 1;scrape 5 1;", -12, 18);
    sort("scrape 5 1;pains 1 1;scrape 5 1;", -12, 28);
    sort("scrape 999 1;scrape 999 1;", -12, 20);
    sort("pains 1000 1;", -12, 6);
    sort("pains 1 101;", -12, 8);
    sort("pains 1 1;pains 1 1;", -13, 10);
    sort("pains 1 1;pains", -13, 10);
    String eight = "scrape 1 1;scrape 2 1;scrape 3 1;scrape 4 1;scrape 5 1;scrape 6 1;scrape 7 1;scrape 8 1;";
    sort(eight + "scrape 9 1;", -13, 88);
    sort(eight + "scrape 1 1;", -13, 88);
    sort("scrape 1 999;scrape 2 2;", -14, 22);
    sort("scrape 1 999;scrape 2 1;", 0, -1);
    sort("scrape 1 999;scrape 2 2", -14, 22);
    sort("scrape 1 999;scrape 2 1000;", -12, 22);
    sort("scrape 1 999;scrape 1 999;", -12, 20);
  }

  private static void rule(String text, int answer, int fault) {
    RungHouse x = Check.tell(new RungHouse(), text);
    c.due("rule '" + text + "'", x.rule(), answer);
    c.due("rule '" + text + "' fault", x.fault(), fault);
    c.due("rule '" + text + "' count", x.count(4), 0);
    c.due("rule '" + text + "' rules", x.count(1), answer < 0 ? 0 : 1);
  }

  private static void rules() {
    rule("", 0, -1);
    rule("   ", 0, -1);
    rule("bar 0;", 0, -1);
    rule("bar999rungs0 9months0 11;", 0, -1);
    rule("bar 5 months 11 11;", 0, -1);
    rule("bar 1;bar 2;bar 3;bar 4;bar 5;bar 6;", 0, -1);
    RungHouse x = Check.tell(new RungHouse(), " ".repeat(121));
    c.due("121 bytes", x.rule(), Check.NOT);
    c.due("121 bytes stay", x.count(4), 121);
    c.due("121 bytes of a sort", x.sort(), -15);
    c.due("121 bytes: fault", x.fault(), 121);
    c.due("120 bytes", Check.tell(x, " ".repeat(120)).rule(), 0);
    for (int i = 1; i < 4; i++) c.due("rule " + i, x.rule(), i);
    c.due("fifth", Check.tell(x, "oh").rule(), Check.FULL);
    c.due("fifth stays", x.count(4), 2);
    c.due("NOT ahead of FULL", Check.tell(x, " ".repeat(120)).rule(), Check.NOT);
    c.due("four rules", x.count(1), 4);
  }

  private static void ruleFaults() {
    rule("bar", -11, 3);
    rule("bar;", -11, 3);
    rule("bar 5", -11, 5);
    rule("bar 5 rungs", -11, 11);
    rule("bar 5 rungs 1;", -11, 13);
    rule("bar 5 rungs 1 2 rungs 1 2;", -11, 16);
    rule("bar 5 months 1 2 rungs 1 2;", -11, 17);
    rule("bar 5 rungs 1 2 months 1 2 months 1 2;", -11, 27);
    rule("bar 5 rung 1 2;", -11, 6);
    rule("rungs 1 2;", -11, 0);
    rule("bar 1000;", -12, 4);
    rule("bar 5 rungs 10 11;", -12, 12);
    rule("bar 5 rungs 9 10;", -12, 14);
    rule("bar 5 rungs 9 8;", -12, 14);
    rule("bar 5 months 12 12;", -12, 13);
    rule("bar 5 months 3 2;", -12, 15);
    rule("bar 5 months 3 12;", -12, 15);
    rule("bar 1;bar 1;bar 1;bar 1;bar 1;bar 1;bar 1000;", -13, 36);
    rule("bar 1;bar 1;bar 1;bar 1;bar 1;bar 1;bars", -11, 36);
  }

  private static void faultStays() {
    RungHouse x = Check.tell(new RungHouse(), "rung 1;up 0;");
    c.due("a fault", x.house(0), -12);
    c.due("its byte", x.fault(), 10);
    c.due("its byte again", x.fault(), 10);
    c.due("refused", x.house(7), Check.UNKNOWN);
    c.due("its byte still", x.fault(), 10);
    Check.tell(x, " ".repeat(250));
    c.due("refused too", x.sort(), Check.NOT);
    c.due("refused as well", x.rule(), Check.NOT);
    c.due("its byte even so", x.fault(), 10);
    c.due("blanks", x.house(0), -15);
    c.due("the newer byte", x.fault(), 250);
    c.due("a good one", x.rule(), 0);
    c.due("none now", x.fault(), Check.NONE);
  }

  private static void told() {
    RungHouse x = new RungHouse();
    c.withHouse(x, 1, "rung 7;rung 8;");
    int[] untold = {2, 1, 3, 0, 0, 0};
    for (int what = 0; what < 6; what++) c.due("untold " + what, x.told(1, what), untold[what]);
    c.withHouse(x, 0, "rung 9 kept;enter 2;rung 8;rung 7 kept;first 12;up 4;down 5;");
    int[] told = {3, 4, 5, 12, 2, 5};
    for (int what = 0; what < 6; what++) c.due("told " + what, x.told(0, what), told[what]);
    c.due("told 6", x.told(0, 6), Check.OUTSIDE);
    c.due("told -1", x.told(0, -1), Check.OUTSIDE);
    c.due("UNKNOWN first", x.told(2, 6), Check.UNKNOWN);
    for (int r = 0; r < 3; r++) c.due("pays " + r, x.pays(0, r), 9 - r);
    c.due("pays 3", x.pays(0, 3), Check.UNKNOWN);
    c.due("pays -1", x.pays(0, -1), Check.UNKNOWN);
    c.due("pays of 2", x.pays(2, 0), Check.UNKNOWN);
  }

  private static void next() {
    RungHouse x = new RungHouse();
    c.withHouse(x, 0, "up 2;down 2;" + "rung 1;".repeat(5) + "rung 1 kept;" + "rung 1;".repeat(4));
    int[][] due = {{2, 0, 0, 0}, {6, 2, 0, 0}, {7, 5, 3, 1}, {9, 7, 5, 3}};
    int[] rungs = {0, 4, 5, 9};
    for (int i = 0; i < 4; i++) {
      for (int k = 0; k < 4; k++) c.due("next " + rungs[i] + " " + k, x.next(0, rungs[i], k), due[i][k]);
    }
    c.due("next 8 0", x.next(0, 8, 0), 9);
    c.due("next k 4", x.next(0, 0, 4), Check.OUTSIDE);
    c.due("next k -1", x.next(0, 0, -1), Check.OUTSIDE);
    c.due("next r 10", x.next(0, 10, 4), Check.UNKNOWN);
    c.due("next r -1", x.next(0, -1, 0), Check.UNKNOWN);
    c.due("next h 1", x.next(1, 0, 0), Check.UNKNOWN);
  }

  private static void scrapes() {
    RungHouse x = new RungHouse();
    c.withSort(x, "scrape 3 10;scrape 40 20;pains 6 70;");
    c.withSort(x, "scrape 1 1;scrape 2 2;scrape 3 3;scrape 4 4;scrape 5 5;scrape 6 6;scrape 7 7;scrape 8 8;");
    int[] first = {2, 30, 6, 70, 3, 40, -1, -1, -1, -1, -1, -1, 10, 20, -1, -1, -1, -1, -1, -1};
    int[] second = {8, 36, -1, -1, 1, 2, 3, 4, 5, 6, 7, 8, 1, 2, 3, 4, 5, 6, 7, 8};
    for (int what = 0; what < 20; what++) {
      c.due("scrapes 0 " + what, x.scrapes(0, what), first[what]);
      c.due("scrapes 1 " + what, x.scrapes(1, what), second[what]);
    }
    c.due("scrapes 20", x.scrapes(0, 20), Check.OUTSIDE);
    c.due("scrapes -1", x.scrapes(0, -1), Check.OUTSIDE);
    c.due("sort 2", x.scrapes(2, 20), Check.UNKNOWN);
    c.due("sort -1", x.scrapes(-1, 0), Check.UNKNOWN);
  }
}
