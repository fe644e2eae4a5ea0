import java.util.Random;

/** Long runs of drawn calls: RungHouse must answer as the Oracle does, call by call. */
public final class CompareTest {
  private static final int RUNS = 150, CALLS = 512;
  private static int wrong = 0;
  private static int refused = 0;
  private static int answered = 0;

  private final Random random;
  private final RungHouse x = new RungHouse();
  private final Oracle o = new Oracle();
  private final StringBuilder log = new StringBuilder();
  private int calls = 0;

  private CompareTest(long seed) { random = new Random(seed); }

  public static void main(String[] args) {
    for (int run = 0; run < RUNS && wrong < 10; run++) new CompareTest(run).run(run);
    System.out.println("CompareTest: " + answered + " answers and " + refused + " refusals alike, " + wrong + " not");
    if (wrong != 0) System.exit(1);
  }

  private void run(int run) {
    int before = wrong;
    if (random.nextInt(10) > 0) { tell(goodHouse()); due("house(0)", x.house(0), o.house(0)); }
    if (random.nextInt(3) > 0) { tell(goodHouse()); due("house(1)", x.house(1), o.house(1)); }
    for (int i = random.nextInt(5); i > 0; i--) { tell(goodSort()); due("sort()", x.sort(), o.sort()); }
    for (int i = random.nextInt(4); i > 0; i--) { tell(goodRule()); due("rule()", x.rule(), o.rule()); }
    while (calls < CALLS && wrong == before) step();
    if (wrong != before) System.out.println("run " + run + ":\n" + log);
  }

  private void due(String call, int got, int want) {
    calls++;
    log.append(call).append(" -> ").append(got).append('\n');
    if (got != want) { wrong++; log.append("   due is ").append(want).append('\n'); }
    else if (want <= -1000000001) refused++;
    else answered++;
  }

  private void tell(String text) {
    log.append("'").append(text).append("' ");
    for (int i = 0; i < text.length(); i += 8) {
      int n = Math.min(8, text.length() - i);
      long bytes = n < 8 ? random.nextLong() << 8 * n : 0;
      for (int j = 0; j < n; j++) bytes = bytes & ~(255L << 8 * (n - 1 - j)) | (long) text.charAt(i + j) << 8 * (n - 1 - j);
      due("feed(" + n + ", " + bytes + ")", x.feed(n, bytes), o.feed(n, bytes));
    }
  }

  // ---- texts
  private String blank() { return random.nextInt(8) == 0 ? "  " : random.nextInt(5) == 0 ? " " : ""; }
  private int at(int least, int most) { return least + random.nextInt(most - least + 1); }

  private String goodHouse() {
    StringBuilder t = new StringBuilder();
    int rungs = random.nextInt(4) == 0 ? 10 : at(1, 8);
    int base = at(0, 3) == 0 ? 0 : at(0, 600), fall = at(-5, 60);
    for (int r = 0; r < rungs; r++) {
      int pay = random.nextInt(8) == 0 ? at(0, 999) : Math.max(0, Math.min(999, base + fall * (rungs - 1 - r)));
      t.append(blank()).append("rung").append(blank()).append(pay).append(blank());
      if (random.nextInt(4) == 0) t.append("kept").append(blank());
      t.append(';');
    }
    if (random.nextInt(3) > 0) t.append("up ").append(at(1, random.nextInt(3) == 0 ? 9 : 3)).append(';').append(blank());
    if (random.nextInt(3) > 0) t.append("down ").append(at(1, random.nextInt(3) == 0 ? 9 : 4)).append(';');
    if (random.nextInt(3) > 0) t.append("first").append(random.nextInt(3) == 0 ? at(0, 99) : at(0, 20)).append(';');
    if (random.nextInt(3) > 0) t.append("enter ").append(at(0, rungs - 1)).append(';');
    return t.toString();
  }

  private String goodSort() {
    StringBuilder t = new StringBuilder();
    int count = random.nextInt(4) == 0 ? 8 : at(1, 5), sum = 0, left = random.nextInt(4) == 0 ? 1000 : at(8, 300);
    for (int i = 0; i < count; i++) {
      sum += at(1, random.nextInt(2) == 0 ? 20 : 120);
      int chance = i == count - 1 && left < 1000 && random.nextInt(6) == 0 ? left : Math.min(999, at(1, Math.max(1, (left - (count - i)) / 2 + 1)));
      chance = Math.max(1, Math.min(chance, left - (count - 1 - i)));
      left -= chance;
      t.append("scrape").append(blank()).append(Math.min(sum, 991 + i)).append(' ').append(chance).append(blank()).append(';');
      if (sum > 990) sum = 990 + i + 1;
    }
    if (random.nextInt(4) > 0) {
      int to = random.nextInt(2);
      t.insert(to == 0 ? 0 : t.length(), "pains " + at(0, random.nextInt(2) == 0 ? 20 : 150) + " " + at(0, 100) + ";");
    }
    return t.toString();
  }

  private String goodRule() {
    StringBuilder t = new StringBuilder();
    for (int i = random.nextInt(5); i > 0; i--) {
      t.append("bar ").append(at(0, random.nextInt(3) == 0 ? 999 : 60)).append(blank());
      if (random.nextBoolean()) { int a = at(0, 9); t.append("rungs ").append(a).append(' ').append(at(a, 9)); }
      if (random.nextBoolean()) { int a = at(0, 11); t.append("months").append(blank()).append(a).append(' ').append(at(a, 11)); }
      t.append(blank()).append(';');
    }
    return t.toString();
  }

  /** A text with a fault or two, or by chance with none. */
  private String spoilt(String text) {
    String[] parts = {" ", ";", "0", "9", "12", "1000", "0001", "rung", "kept", "up", "down", "first", "enter", "scrape", "pains", "bar", "rungs",
        "months", "x", "R", "$", "rung 5;", "up 2;", "enter 3;", "scrape 900 1;", "pains 1 1;", "bar 4;", "\u00e9", "\0", "\t", "-"};
    StringBuilder t = new StringBuilder(text);
    for (int i = at(1, 3); i > 0; i--) {
      int where = random.nextInt(t.length() + 1);
      switch (random.nextInt(5)) {
        case 0 -> t.insert(where, parts[random.nextInt(parts.length)]);
        case 1 -> t.append(parts[random.nextInt(parts.length)]);
        case 2 -> { if (where < t.length()) t.deleteCharAt(where); }
        case 3 -> { if (where < t.length()) t.setCharAt(where, (char) random.nextInt(random.nextBoolean() ? 128 : 256)); }
        default -> t.setLength(where);
      }
    }
    return t.length() > 300 ? t.substring(0, 300) : t.toString();
  }

  // ---- arguments, now and then just out of bounds
  private int arg(int least, int most) {
    if (random.nextInt(40) == 0) return random.nextBoolean() ? least - 1 : most + 1;
    if (random.nextInt(300) == 0) return random.nextBoolean() ? Integer.MIN_VALUE : Integer.MAX_VALUE;
    return at(least, Math.max(least, most));
  }
  private int s() { return arg(0, Math.max(0, o.count(0) - 1)); }
  private int h() { return arg(0, o.told(1, 0) > 0 ? 1 : 0); }
  private int r(int h) { int rungs = h == 0 || h == 1 ? o.told(h, 0) : 0; return arg(0, Math.max(0, rungs - 1)); }
  private int p() { return arg(0, Math.max(0, o.count(1) - 1)); }
  private int way() { return random.nextInt(3) == 0 ? -1 : p(); }
  private int years() { return random.nextInt(8) == 0 ? arg(1, 30) : arg(1, 6); }

  private void step() {
    int h = h(), s = s(), r = r(h), years = years(), y = arg(0, Math.max(0, Math.min(years, 31))), m = arg(0, 12), k = arg(0, 3), p = p(), way = way();
    int t = random.nextBoolean() ? arg(0, 30) : arg(0, 5), what = arg(0, 2), sum = arg(1, random.nextBoolean() ? 60 : 999), month = arg(0, 11);
    boolean b = random.nextBoolean();
    switch (random.nextInt(31)) {
      case 0 -> textStep();
      case 1 -> { int w = arg(0, 5); due("told " + h + " " + w, x.told(h, w), o.told(h, w)); }
      case 2 -> due("pays " + h + " " + r, x.pays(h, r), o.pays(h, r));
      case 3 -> due("next " + h + " " + r + " " + k, x.next(h, r, k), o.next(h, r, k));
      case 4 -> { int w = arg(0, 19); due("scrapes " + s + " " + w, x.scrapes(s, w), o.scrapes(s, w)); }
      case 5, 6 -> due("cost " + s + " " + h + " " + years + " " + y + " " + r, x.cost(s, h, years, y, r), o.cost(s, h, years, y, r));
      case 7, 8 -> due("in " + s + " " + h + " " + years + " " + y + " " + r + " " + m + " " + k + " " + b,
          x.in(s, h, years, y, r, m, k, b), o.in(s, h, years, y, r, m, k, b));
      case 9 -> due("takes " + s + " " + h + " " + years + " " + y + " " + r, x.takes(s, h, years, y, r), o.takes(s, h, years, y, r));
      case 10, 11 -> due("bar " + s + " " + h + " " + years + " " + y + " " + r + " " + m + " " + k + " " + b,
          x.bar(s, h, years, y, r, m, k, b), o.bar(s, h, years, y, r, m, k, b));
      case 12 -> due("fixed " + p + " " + s + " " + h + " " + years + " " + y + " " + r, x.fixed(p, s, h, years, y, r), o.fixed(p, s, h, years, y, r));
      case 13 -> due("scrape " + month + " " + sum + " " + b, x.scrape(month, sum, b), o.scrape(month, sum, b));
      case 14, 15 -> due("judge " + s + " " + h + " " + years + " " + y + " " + r, x.judge(s, h, years, y, r), o.judge(s, h, years, y, r));
      case 16, 17 -> due("standing " + s + " " + h + " " + way + " " + years + " " + t + " " + r,
          x.standing(s, h, way, years, t, r), o.standing(s, h, way, years, t, r));
      case 18 -> due("odds " + s + " " + h + " " + way + " " + years + " " + r + " " + k, x.odds(s, h, way, years, r, k), o.odds(s, h, way, years, r, k));
      case 19, 20 -> due("even " + s + " " + h + " " + way + " " + years + " " + t + " " + what,
          x.even(s, h, way, years, t, what), o.even(s, h, way, years, t, what));
      case 21 -> { int rr = random.nextInt(3) == 0 ? arg(0, 9) : r; due("year " + rr + " " + k, x.year(rr, k), o.year(rr, k)); }
      case 22 -> { if (random.nextInt(3) == 0) due("clear", x.clear(), o.clear()); }
      case 23 -> due("think " + s + " " + h + " " + years, x.think(s, h, years), o.think(s, h, years));
      case 24 -> { int kk = arg(1, 3); due("buy " + s + " " + h + " " + years + " " + y + " " + r + " " + kk, x.buy(s, h, years, y, r, kk), o.buy(s, h, years, y, r, kk)); }
      case 25 -> due("keepRung " + s + " " + h + " " + years + " " + r, x.keepRung(s, h, years, r), o.keepRung(s, h, years, r));
      case 26 -> due("leave " + s + " " + h + " " + years + " " + r, x.leave(s, h, years, r), o.leave(s, h, years, r));
      case 27 -> { int z = arg(0, 999), v = arg(0, 100); due("pad " + s + " " + h + " " + years + " " + r + " " + month + " " + k + " " + sum + " " + z + " " + v,
          x.pad(s, h, years, r, month, k, sum, z, v), o.pad(s, h, years, r, month, k, sum, z, v)); }
      case 28 -> settingStep(h);
      case 29 -> { int n = arg(1, 30); due("lives " + s + " " + h + " " + p + " " + n, x.lives(s, h, p, n), o.lives(s, h, p, n)); }
      default -> smallStep();
    }
  }

  private void settingStep(int h) {
    // The Oracle is slow here, so few of these with few years.
    if (random.nextInt(6) > 0) return;
    int years = arg(1, 12) > 3 && random.nextInt(6) > 0 ? at(1, 3) : arg(1, 12);
    int least = random.nextInt(3) == 0 ? arg(-9999999, 9999999) : at(-3000, 200000);
    due("setting " + h + " " + years + " " + least, x.setting(h, years, least), o.setting(h, years, least));
  }

  private void smallStep() {
    int i = arg(0, 1), w = arg(0, 4), v = random.nextInt(4) == 0 ? -1 - random.nextInt(5) : random.nextInt() & Integer.MAX_VALUE;
    switch (random.nextInt(5)) {
      case 0 -> due("seed " + v, x.seed(v), o.seed(v));
      case 1 -> due("count " + w, x.count(w), o.count(w));
      case 2 -> due("keep " + i, x.keep(i), o.keep(i));
      case 3 -> due("goBack " + i, x.goBack(i), o.goBack(i));
      default -> due("fault", x.fault(), o.fault());
    }
  }

  private void textStep() {
    int kind = random.nextInt(3);
    String text = kind == 0 ? goodHouse() : kind == 1 ? goodSort() : goodRule();
    if (random.nextInt(4) > 0) text = spoilt(text);
    tell(text);
    due("count 4", x.count(4), o.count(4));
    int h = arg(0, 1);
    switch (random.nextInt(12) == 0 ? random.nextInt(3) : kind) {
      case 0 -> due("house(" + h + ")", x.house(h), o.house(h));
      case 1 -> due("sort()", x.sort(), o.sort());
      default -> due("rule()", x.rule(), o.rule());
    }
    due("fault", x.fault(), o.fault());
    due("feed(0)", x.feed(0, 1), o.feed(0, 1));
    // A refused text stays; read as a house it goes, so that the next one begins anew.
    if (random.nextInt(3) > 0 && o.count(4) > 0) due("house(1)", x.house(1), o.house(1));
  }
}
