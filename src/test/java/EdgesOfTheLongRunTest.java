/**
 * The document's sentences with an edge, one by one: part 3 and promises 18 to 23.
 *
 * The house of example(): rungs for 100 and 60, one up, one down, first 10. Sort 0: a scrape of 30, 100 of 1000 a month;
 * sort 1: one of two scrapes each month; sort 2: as 0, with pains. Rules: ask for all, for none, in the last month.
 */
public final class EdgesOfTheLongRunTest {
  private static final Edges c = new Edges();
  private static final String PART = "Part 3";

  public static void main(String[] args) {
    standings();
    oddsOfAskings();
    paidAndAskedFor();
    weights();
    standing();
    odds();
    even();
    year();
    clear();
    think();
    c.covers("Part 3");
    for (int n = 18; n <= 23; n++) c.covers("Promise " + n);
    c.close("EdgesOfTheLongRunTest");
  }

  private static RungHouse example() {
    RungHouse x = c.withHouse(new RungHouse(), 0, "rung 100;rung 60;down 1;first 10;");
    c.withHouse(x, 1, "rung 9;rung 8;rung 7;enter 2;");
    c.withSort(x, "scrape 30 100;");
    c.withSort(x, "scrape 20 500;scrape 30 500;");
    c.withSort(x, "scrape 30 100;pains 1 50;");
    c.withRule(x, "");
    c.withRule(x, "bar 31;");
    return c.withRule(x, "bar 31 months 0 10;");
  }

  /**
   * Four kept rungs for a coin each; asked for in MONTH 11 alone: 667000 go up, 333000 stay.
   * Year 1: 0, 333000, 667000, 0. Year 2: 0, 110889, 444222, 444889.
   * Year 3: 36926, 73962 and 147925, 296296 and 148148 and 296740, all cut: 3 are lost.
   */
  private static RungHouse keptRungs() {
    RungHouse x = c.withHouse(new RungHouse(), 0, "up 1;enter 1;" + "rung 1 kept;".repeat(4));
    c.withSort(x, "scrape 30 333;");
    return c.withRule(x, "bar 31 months 0 10;");
  }

  // ---------------------------------------------------------------- part 3

  private static void standings() {
    c.says(PART, "STANDING: of a MILLION of a SORT that begin on 'enter', all in year 0, by a RULE, or by THE BEST WAY as in year 0 of Y years "
        + "(pains, too, as it takes them then): how many are on each RUNG at the beginning of year t (0 .. 30): year by year: each RUNG's times the odds "
        + "(of a MILLION) of k ASKINGS / MILLION (cut, k 0 to 3), what is lost by cutting stays on RUNG 0.");
    RungHouse x = example();
    c.due("begin on 'enter' 0", x.standing(0, 0, 0, 1, 0, 0), 1000000);
    c.due("not on 1", x.standing(0, 0, 0, 1, 0, 1), 0);
    c.due("begin on 'enter' 2", x.standing(0, 1, 0, 1, 0, 2), 1000000);
    c.due("by a rule", x.standing(0, 0, 0, 2, 1, 1), 282431);
    c.due("by the best way of one year", x.standing(0, 0, -1, 1, 1, 1), 282431);
    // All in year 0 of two years: not in the last one, though t goes far beyond it.
    c.due("by the best way of two years", x.standing(0, 0, -1, 2, 1, 1), 900000);
    c.due("and a year on", x.standing(0, 0, -1, 2, 2, 1), 900000);
    c.due("pains, too", x.standing(2, 0, -1, 1, 1, 1), 540363);
    c.due("no pains by a rule", x.standing(2, 0, 0, 1, 1, 1), 282431);
    // Rungs for 100, 60, 60: from the top the first asking costs nothing later, from rung 1 it does; each RUNG has its own odds.
    RungHouse own = c.withSort(c.withHouse(new RungHouse(), 0, "rung 100;rung 60;rung 60;down 1;first 10;enter 2;"), "scrape 30 100;");
    c.due("odds on the top", own.odds(0, 0, -1, 2, 2, 0), 282431);
    c.due("odds on rung 1", own.odds(0, 0, -1, 2, 1, 0), 900000);
    c.due("odds on the top again", own.odds(0, 0, -1, 2, 2, 0), 282431);
    c.due("stay on the top", own.standing(0, 0, -1, 2, 1, 2), 282431);
    RungHouse z = keptRungs();
    int[][] due = {{0, 1000000, 0, 0}, {0, 333000, 667000, 0}, {0, 110889, 444222, 444889}, {3, 36926, 221887, 741184}};
    for (int t = 0; t < 4; t++) {
      for (int r = 0; r < 4; r++) c.due("year " + t + ", rung " + r, z.standing(0, 0, 0, 1, t, r), due[t][r]);
    }
    for (int t : new int[] {4, 5, 29, 30}) {
      int all = 0;
      for (int r = 0; r < 4; r++) all += z.standing(0, 0, 0, 1, t, r);
      c.due("nobody is lost to year " + t, all, 1000000);
    }
    c.due("year 31", z.standing(0, 0, 0, 1, 31, 0), Check.OUTSIDE);
  }

  private static void oddsOfAskings() {
    c.says(PART, "Odds of k: MONTH by MONTH, from k 0 a MILLION: those with k times (Q of all ASKED for) / 1000 (cut) go on to k and 1 (3 stay 3), the rest stay.");
    RungHouse x = example();
    // Twelve askings a year: all are counted as 3, and nobody is lost.
    int[] always = {0, 0, 0, 1000000};
    for (int k = 0; k < 4; k++) c.due("always, k " + k, x.odds(1, 0, 0, 1, 0, k), always[k]);
    int[] never = {1000000, 0, 0, 0};
    for (int k = 0; k < 4; k++) c.due("never, k " + k, x.odds(0, 0, 1, 1, 0, k), never[k]);
    int[] once = {900000, 100000, 0, 0};
    for (int k = 0; k < 4; k++) c.due("MONTH 11, k " + k, x.odds(0, 0, 2, 1, 0, k), once[k]);
    // 1 of 1000 in three months: 999000 and 1000; 998001, 1998 and 1; 997003 (998 go), 2995 (1 goes), 2 (0 go), 0.
    c.withSort(x, "scrape 30 1;");
    c.withRule(x, "bar 31 months 0 8;");
    int[] rare = {997003, 2995, 2, 0};
    for (int k = 0; k < 4; k++) c.due("three months of 1, k " + k, x.odds(3, 0, 3, 1, 0, k), rare[k]);
    // Q of all ASKED for: both scrapes, the greater one, none.
    RungHouse z = c.withHouse(new RungHouse(), 0, "rung 0;");
    c.withSort(z, "scrape 10 100;scrape 20 200;");
    int[] left = {700000, 700000, 800000, 800000, 1000000};
    int[] bars = {9, 10, 11, 20, 21};
    for (int i = 0; i < 4; i++) c.due("bar " + bars[i], c.withRule(z, "bar 999 months 0 10;bar " + bars[i] + ";").odds(0, 0, i, 1, 0, 0), left[i]);
    RungHouse w = c.withSort(c.withHouse(new RungHouse(), 0, "rung 0;"), "scrape 10 100;scrape 20 200;");
    c.due("bar " + bars[4], c.withRule(w, "bar 999 months 0 10;bar " + bars[4] + ";").odds(0, 0, 0, 1, 0, 0), left[4]);
  }

  private static void paidAndAskedFor() {
    RungHouse x = example();
    RungHouse z = keptRungs();
    c.says(PART, "PAID of a year t: the sum over RUNGS of STANDING times P / 1000 (cut each).");
    c.due("a million on rung 0", x.even(0, 0, 0, 1, 0, 0), 100000);
    // 71756.9 and 16945.86
    c.due("on both", x.even(0, 0, 0, 1, 1, 0), 71756 + 16945);
    // 0.003, 36.926, 221.887, 741.184
    c.due("cut each", z.even(0, 0, 0, 1, 3, 0), 36 + 221 + 741);

    c.says(PART, "ASKED FOR: the sum over RUNGS, of STANDING times what the house bears in a year there / MILLION (cut each);");
    // 333 times 30 are 9990 on each rung: 0.03, 368.89, 2216.65, 7404.43
    c.due("on one", z.even(0, 0, 0, 1, 0, 1), 9990);
    c.due("cut each", z.even(0, 0, 0, 1, 3, 1), 368 + 2216 + 7404);
    c.due("none asked for", x.even(0, 0, 1, 1, 5, 1), 0);

    c.says(PART, "what it bears on a RUNG: in thousandths: over MONTHS and k: odds of k ahead of that MONTH times the sum over scrapes that are ASKED for "
        + "of Q times (S less F, 0 at least) / MILLION (cut each MONTH and k).");
    c.due("twelve months of 10 or 20", x.even(1, 0, 0, 1, 0, 1), 12 * 15000);
    RungHouse w = c.withHouse(new RungHouse(), 0, "rung 0;");
    c.withSort(w, "scrape 1 333;");
    c.withRule(w, "bar 2 months 0 9;");
    // 333 in MONTH 10; 667000 times 333 and 333000 times 333 in MONTH 11: 222.111 and 110.889
    c.due("cut each MONTH and k", w.even(0, 0, 0, 1, 0, 1), 333 + 222 + 110);
    int[] sums = {9, 10, 11};
    int[] rest = {0, 0, 500};
    for (int i = 0; i < 3; i++) {
      RungHouse one = c.withHouse(new RungHouse(), 0, "rung 0;first 10;");
      c.withSort(one, "scrape " + sums[i] + " 500;");
      c.withRule(one, "bar 999 months 0 10;");
      c.due(sums[i] + " less 10, 0 at least", one.even(0, 0, 0, 1, 0, 1), rest[i]);
    }

    c.says(PART, "EVEN of a SORT: PAID less ASKED FOR, both in coins of a thousand people.");
    c.due("below 0", z.even(0, 0, 0, 1, 3, 2), 998 - 9988);
    c.due("above 0", x.even(0, 0, 1, 1, 0, 2), 100000);
    c.due("a thousand people pay 100 coins each, and ask for 180", x.even(1, 0, 0, 1, 0, 2), 100000 - 180000);
  }

  /** One rung for nothing, no first sum, so that all is asked for; none is asked for in a year by 282431 and by 245 of a MILLION. */
  private static RungHouse oftenAndSeldom() {
    RungHouse x = c.withHouse(new RungHouse(), 0, "rung 0;");
    c.withSort(x, "scrape 30 100;");
    return c.withSort(x, "scrape 30 500;");
  }

  private static void weights() {
    c.says(PART, "THINK: weights of SORTS (100000 each at first): for a row of YEARS (8 at most; ASKINGS 0 to 3, on RUNG r of a HOUSE, THE BEST WAY in year 0 "
        + "of Y years): weight times odds of that many / MILLION (cut); then all times 100000 / the greatest of them (cut), if that is above 0.");
    RungHouse x = oftenAndSeldom();
    c.due("odds of sort 0", x.odds(0, 0, -1, 1, 0, 0), 282431);
    c.due("odds of sort 1", x.odds(1, 0, -1, 1, 0, 0), 245);
    c.due("no years", x.think(0, 0, 1), 50);
    x.year(0, 0);
    // 28243 and 24; then 100000 and 84
    c.due("one year, sort 0", x.think(0, 0, 1), 99);
    c.due("one year, sort 1", x.think(1, 0, 1), 0);
    x.year(0, 0);
    // 84 times 245 / MILLION is 0.
    c.due("two years, sort 0", x.think(0, 0, 1), 100);
    for (int i = 3; i <= 8; i++) c.due("year " + i, x.year(0, 0), i);
    c.due("a ninth", x.year(0, 0), Check.FULL);
    c.due("eight years", x.think(0, 0, 1), 100);
    // Made great after each year: 100000 times some 150 of a MILLION would be nothing after the second.
    RungHouse z = c.withHouse(new RungHouse(), 0, "rung 0;");
    c.withSort(z, "scrape 400 9;");
    c.withSort(z, "scrape 401 9;");
    for (int i = 0; i < 8; i++) z.year(0, 3);
    c.due("eight rare years", z.think(0, 0, 1), 50);
    // Nobody asks for what F covers: all weights are 0 and stay so, whatever comes behind.
    RungHouse w = c.withHouse(new RungHouse(), 0, "rung 0;first 10;");
    c.withSort(w, "scrape 5 9;");
    c.withSort(w, "scrape 10 9;");
    w.year(0, 0);
    c.due("as all do", w.think(1, 0, 1), 50);
    w.year(0, 1);
    c.due("as none does", w.think(1, 0, 1), 0);
    w.year(0, 0);
    c.due("for good", w.think(0, 0, 1), 0);
    // 57549 and 45218; then 100000 and 78573: 100 times 100000 / 178573 is 55.9995.
    RungHouse near = c.withHouse(new RungHouse(), 0, "rung 0;");
    c.withSort(near, "scrape 30 45;");
    c.withSort(near, "scrape 30 64;");
    near.year(0, 0);
    c.due("just below 56", near.think(0, 0, 1), 55);
    c.due("just above 44", near.think(1, 0, 1), 44);
    // 100000 and 2 behind the first year, 0 and 1 behind the second: 1 is above 0, and is made great.
    RungHouse one = c.withHouse(new RungHouse(), 0, "rung 0;");
    c.withSort(one, "scrape 20 500;scrape 30 500;");
    c.withSort(one, "scrape 30 5;");
    one.year(0, 3);
    c.due("who asks always", one.think(0, 0, 1), 99);
    one.year(0, 0);
    one.year(0, 0);
    c.due("a weight of 1 is made great", one.think(1, 0, 1), 100);
    RungHouse best = example();
    // Over one year all ask for all; over two sort 0 asks in MONTH 0 or not at all, and is the one who has not asked.
    best.year(0, 0);
    c.due("Y tells", best.think(0, 0, 1) == best.think(0, 0, 2) ? 1 : 0, 0);

    c.says(PART, "Told: of a hundred: 100 times weight / all together (cut; 0, if all are 0).");
    c.due("a third", example().think(0, 0, 1), 33);
    c.due("all", c.withSort(c.withHouse(new RungHouse(), 0, "rung 0;"), "scrape 1 1;").think(0, 0, 1), 100);
    c.due("99.9 of a hundred", thinkAfterOne(0), 99);
    c.due("0.08 of a hundred", thinkAfterOne(1), 0);
    c.due("all are 0", w.think(0, 0, 1), 0);
  }

  private static int thinkAfterOne(int s) {
    RungHouse x = oftenAndSeldom();
    x.year(0, 0);
    return x.think(s, 0, 1);
  }

  // ---------------------------------------------------------------- promises 18 to 23

  private static void standing() {
    c.says("Promise 18", "STANDING on RUNG r in year t by a RULE (NONE: THE BEST WAY).");
    RungHouse x = example();
    c.due("rule 0", x.standing(0, 0, 0, 2, 1, 0), 1000000 - 282431);
    c.due("rule 1", x.standing(0, 0, 1, 2, 1, 0), 0);
    c.due("rule 2", x.standing(0, 0, 2, 2, 1, 0), 100000);
    c.due("NONE", x.standing(0, 0, -1, 2, 1, 0), 100000);
    c.due("year 30", x.standing(0, 0, 1, 2, 30, 1), 1000000);

    c.says("Promise 18", "UNKNOWN, OUTSIDE (Y, t).");
    c.bounds("s", 0, 2, Check.UNKNOWN, s -> x.standing(s, 0, 0, 2, 1, 0));
    c.bounds("h", 0, 1, Check.UNKNOWN, h -> x.standing(0, h, 0, 2, 1, 0));
    c.bounds("rule", -1, 2, Check.UNKNOWN, rule -> x.standing(0, 0, rule, 2, 1, 0));
    c.bounds("r", 0, 1, Check.UNKNOWN, r -> x.standing(0, 0, 0, 2, 1, r));
    c.bounds("Y by a rule", 1, 30, Check.OUTSIDE, years -> x.standing(0, 0, 0, years, 1, 0));
    c.bounds("Y by the best way", 1, 30, Check.OUTSIDE, years -> x.standing(0, 0, -1, years, 1, 0));
    c.bounds("t", 0, 30, Check.OUTSIDE, t -> x.standing(0, 0, 0, 2, t, 0));
    c.bounds("t by the best way", 0, 30, Check.OUTSIDE, t -> x.standing(0, 0, -1, 2, t, 0));
  }

  private static void odds() {
    c.says("Promise 19", "Odds of k ASKINGS in a year on a RUNG, likewise.");
    RungHouse x = example();
    c.due("rule 0", x.odds(0, 0, 0, 1, 1, 0), 282431);
    c.due("rule 2", x.odds(0, 0, 2, 1, 1, 1), 100000);
    c.due("NONE, one year", x.odds(0, 0, -1, 1, 1, 0), 282431);
    c.due("NONE, two years", x.odds(0, 0, -1, 2, 1, 0), 900000);
    c.due("NONE, with pains", x.odds(2, 0, -1, 1, 1, 0), 540363);
    c.withRule(x, "bar 31 rungs 1 1;");
    c.due("by rung, 0", x.odds(0, 0, 3, 1, 0, 0), 282431);
    c.due("by rung, 1", x.odds(0, 0, 3, 1, 1, 0), 1000000);

    c.says("Promise 19", "UNKNOWN, OUTSIDE.");
    c.bounds("s", 0, 2, Check.UNKNOWN, s -> x.odds(s, 0, 0, 2, 0, 0));
    c.bounds("h", 0, 1, Check.UNKNOWN, h -> x.odds(0, h, 0, 2, 0, 0));
    c.bounds("rule", -1, 3, Check.UNKNOWN, rule -> x.odds(0, 0, rule, 2, 0, 0));
    c.bounds("r", 0, 1, Check.UNKNOWN, r -> x.odds(0, 0, 0, 2, r, 0));
    c.bounds("Y by a rule", 1, 30, Check.OUTSIDE, years -> x.odds(0, 0, 0, years, 0, 0));
    c.bounds("Y by the best way", 1, 30, Check.OUTSIDE, years -> x.odds(0, 0, -1, years, 0, 0));
    c.bounds("k", 0, 3, Check.OUTSIDE, k -> x.odds(0, 0, 0, 2, 0, k));
  }

  private static void even() {
    c.says("Promise 20", "In year t: what = 0 PAID, 1 ASKED FOR, 2 EVEN.");
    RungHouse x = example();
    int[] due = {100000, 180000, -80000};
    for (int what = 0; what < 3; what++) c.due("what " + what, x.even(1, 0, 0, 1, 30, what), due[what]);
    // A year on rung 1 by pains: 50 of 1000 ask for 20 of 30.
    c.due("pains spare the house", x.even(2, 0, -1, 1, 0, 1) < x.even(0, 0, -1, 1, 0, 1) ? 1 : 0, 1);

    c.says("Promise 20", "UNKNOWN, OUTSIDE.");
    c.bounds("s", 0, 2, Check.UNKNOWN, s -> x.even(s, 0, 0, 2, 1, 0));
    c.bounds("h", 0, 1, Check.UNKNOWN, h -> x.even(0, h, 0, 2, 1, 0));
    c.bounds("rule", -1, 2, Check.UNKNOWN, rule -> x.even(0, 0, rule, 2, 1, 0));
    c.bounds("Y by a rule", 1, 30, Check.OUTSIDE, years -> x.even(0, 0, 0, years, 1, 0));
    c.bounds("Y by the best way", 1, 30, Check.OUTSIDE, years -> x.even(0, 0, -1, years, 1, 0));
    c.bounds("t", 0, 30, Check.OUTSIDE, t -> x.even(0, 0, 0, 2, t, 0));
    c.bounds("what", 0, 2, Check.OUTSIDE, what -> x.even(0, 0, 0, 2, 1, what));
    c.due("rule and what", x.even(0, 0, 3, 2, 1, 3), Check.UNKNOWN);
    RungHouse bare = c.withSort(new RungHouse(), "scrape 1 1;");
    c.due("a house that was not told", bare.even(0, 0, -1, 1, 0, 0), Check.UNKNOWN);
  }

  private static void year() {
    c.says("Promise 21", "A YEAR behind THE YEARS: how many there are.");
    RungHouse x = new RungHouse();
    for (int i = 1; i <= 8; i++) c.due("year " + i, x.year(i, i % 4), i);
    c.due("count", x.count(3), 8);

    c.says("Promise 21", "OUTSIDE (r 0 .. 9, ASKINGS), FULL (8).");
    c.due("a ninth", x.year(0, 0), Check.FULL);
    c.due("OUTSIDE ahead of FULL", x.year(0, 4), Check.OUTSIDE);
    c.due("eight are there", x.count(3), 8);
    c.bounds("r", 0, 9, Check.OUTSIDE, r -> new RungHouse().year(r, 0));
    c.bounds("k", 0, 3, Check.OUTSIDE, k -> new RungHouse().year(0, k));
    c.due("clear", x.clear(), 8);
    c.due("anew", x.year(9, 3), 1);
  }

  private static void clear() {
    c.says("Promise 22", "THE YEARS, THE LIFE are empty: how many both had.");
    RungHouse x = new RungHouse();
    c.due("nothing", x.clear(), 0);
    for (int i = 0; i < 8; i++) x.year(0, 0);
    for (int m = 0; m < 12; m++) x.scrape(m, 1, true);
    x.seed(5);
    Check.tell(x, "ru");
    c.due("8 and 12", x.clear(), 20);
    c.due("no years", x.count(3), 0);
    c.due("no life", x.count(2), 0);
    c.due("the text stays", x.count(4), 2);
    c.due("the seed stays", x.seed(0), 5);
    c.due("again", x.clear(), 0);
    x.scrape(11, 1, true);
    c.due("a scrape alone", x.clear(), 1);
    c.due("months from 0 again", x.scrape(0, 1, true), 1);
    x.clear();
    x.year(0, 0);
    c.due("a year alone", x.clear(), 1);
  }

  private static void think() {
    c.says("Promise 23", "THINK of a SORT.");
    RungHouse x = example();
    x.year(0, 3);
    // In the last year sort 1 asks each month, 0 thrice with 110868 of a MILLION, 2 by pains with 19564: 11086, 100000, 1956
    int[] due = {9, 88, 1};
    for (int s = 0; s < 3; s++) c.due("sort " + s, x.think(s, 0, 1), due[s]);

    c.says("Promise 23", "UNKNOWN, OUTSIDE (Y), NOT: one of THE YEARS is on a RUNG that this HOUSE has not.");
    c.bounds("s", 0, 2, Check.UNKNOWN, s -> x.think(s, 0, 2));
    c.bounds("h", 0, 1, Check.UNKNOWN, h -> x.think(0, h, 2));
    c.bounds("Y", 1, 30, Check.OUTSIDE, years -> x.think(0, 0, years));
    x.year(1, 0);
    c.allowed("the top", x.think(0, 0, 2));
    x.year(2, 0);
    c.due("one above the top", x.think(0, 0, 2), Check.NOT);
    c.allowed("the other house has it", x.think(0, 1, 2));
    x.year(0, 0);
    c.due("one of them in the midst", x.think(0, 0, 2), Check.NOT);
    c.due("Y ahead of it", x.think(0, 0, 31), Check.OUTSIDE);
    c.due("SORT ahead of it", x.think(3, 0, 2), Check.UNKNOWN);
    x.clear();
    c.allowed("none of THE YEARS", x.think(0, 0, 2));
    x.year(9, 0);
    c.due("rung 9 of three", x.think(0, 1, 2), Check.NOT);
    c.withHouse(x, 1, "rung 1;".repeat(10));
    c.allowed("rung 9 of ten", x.think(0, 1, 2));
    c.withHouse(x, 1, "rung 1;".repeat(9));
    c.due("rung 9 of nine", x.think(0, 1, 2), Check.NOT);
  }
}
