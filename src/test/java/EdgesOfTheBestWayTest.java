/**
 * The document's sentences with an edge, one by one: part 2 and promises 11 to 17.
 *
 * The example is BestWayTest's: rungs for 100 and 60, one up, one down, first 10; a scrape of 30, 100 of 1000 a month.
 * The last year one asks: COST 112000, 72000. In the year ahead of it one asks in MONTH 0 alone, and then always.
 */
public final class EdgesOfTheBestWayTest {
  private static final Edges c = new Edges();
  private static final String PART = "Part 2";

  public static void main(String[] args) {
    years();
    costOfBoth();
    inMonth();
    theBar();
    ruleTexts();
    ruleAsks();
    fixedOfRule();
    lifeAndJudged();
    cost();
    in();
    takes();
    bar();
    fixed();
    scrape();
    judge();
    c.covers("Part 2");
    for (int n = 11; n <= 17; n++) c.covers("Promise " + n);
    c.close("EdgesOfTheBestWayTest");
  }

  private static RungHouse example() {
    RungHouse x = c.withHouse(new RungHouse(), 0, "rung 100;rung 60;down 1;first 10;");
    c.withHouse(x, 1, "rung 9;rung 8;rung 7;");
    c.withSort(x, "scrape 30 100;");
    c.withSort(x, "scrape 30 100;pains 1 50;");
    c.withRule(x, "");
    return c.withRule(x, "bar 31;");
  }

  /** Rungs for 1, 0, 0 coins, one down; a scrape of one coin, 1 of 1000. */
  private static RungHouse thousandths() {
    return c.withSort(c.withHouse(new RungHouse(), 0, "rung 1;rung 0;rung 0;down 1;"), "scrape 1 1;");
  }

  // ---------------------------------------------------------------- part 2

  private static void years() {
    c.says(PART, "THE BEST WAY of a SORT in a HOUSE over Y years (1 .. 30), from the last one back: AFTER Y years all is 0.");
    RungHouse x = example();
    c.due("after one year", x.cost(0, 0, 1, 1, 0), 0);
    c.due("the one year", x.cost(0, 0, 1, 0, 0), 112000);
    c.due("after thirty years", x.cost(0, 0, 30, 30, 1), 0);
    c.due("the last of thirty", x.cost(0, 0, 30, 29, 1), 72000);
    c.due("the last but one of thirty", x.cost(0, 0, 30, 28, 1), 167800);
    c.due("two years", x.cost(0, 0, 2, 0, 1), 167800);
    c.due("behind the last year", x.in(0, 0, 30, 29, 0, 12, 3, false), 0);
    c.due("no year", x.cost(0, 0, 0, 0, 0), Check.OUTSIDE);
    c.due("31 years", x.cost(0, 0, 31, 0, 0), Check.OUTSIDE);
  }

  private static void costOfBoth() {
    c.says(PART, "COST (y, r): P times 1000, and IN (y, r, 0, 0) ; with pains likewise by their Q, and C times 1000; the less of both (without pains, if alike).");
    RungHouse x = example();
    c.due("P and IN", x.cost(0, 0, 2, 0, 0), 100000 + x.in(0, 0, 2, 0, 0, 0, 0, false));
    c.due("P and IN of rung 1", x.cost(0, 0, 2, 0, 1), 60000 + 107800);
    // By pains 50 of 1000: 85000, and 1000; without 102800.
    c.due("with pains", x.cost(1, 0, 2, 0, 0), 100000 + 85000 + 1000);
    // In the last year 12000 without pains, 6000 with them and C: 5 coins are taken, 6 are alike, 7 are not.
    RungHouse z = c.withHouse(new RungHouse(), 0, "rung 100;first 10;");
    for (int price = 5; price <= 7; price++) c.withSort(z, "scrape 30 100;pains " + price + " 50;");
    int[] takes = {1, 0, 0}, costs = {111000, 112000, 112000};
    for (int s = 0; s < 3; s++) {
      c.due("takes pains for " + (5 + s), z.takes(s, 0, 1, 0, 0), takes[s]);
      c.due("cost with pains for " + (5 + s), z.cost(s, 0, 1, 0, 0), costs[s]);
    }
    RungHouse free = c.withHouse(new RungHouse(), 0, "rung 5;");
    c.withSort(free, "scrape 30 100;pains 0 100;");
    c.due("for nothing and nothing spared: alike", free.takes(0, 0, 1, 0, 0), 0);
  }

  private static void inMonth() {
    c.says(PART, "IN (y, r, m, k): the sum over scrapes of Q times (S times 1000 and IN (y, r, m and 1, k), or, if that is less, "
        + "what one bears ASKED times 1000 and IN (y, r, m and 1, k and 1 to 3)), and (1000 less all Q) times IN (y, r, m and 1, k); that sum / 1000 (cut).");
    RungHouse x = example();
    for (int k = 1; k <= 3; k++) {
      for (int m = 0; m <= 12; m++) c.due("m " + m + ", k " + k, x.in(0, 0, 2, 0, 1, m, k, false), 112000 + 1000 * (12 - m));
    }
    for (int m = 1; m <= 12; m++) c.due("m " + m + ", k 0: alike or dearer, so one bears", x.in(0, 0, 2, 0, 1, m, 0, false), 72000 + 3000 * (12 - m));
    // MONTH 0: 10000 and 123000 are less than 30000 and 105000; (100 times 133000 and 900 times 105000) / 1000.
    c.due("m 0, k 0: asking is less", x.in(0, 0, 2, 0, 1, 0, 0, false), 107800);
    RungHouse t = thousandths();
    c.due("1 times 1000 / 1000", t.in(0, 0, 2, 0, 2, 11, 1, false), 1);
    // 1 times 1000 (asked: 0 and 1000, less than 1000 and 1) and 999 times 1 are 1999, cut to 1.
    c.due("1999 / 1000", t.in(0, 0, 2, 0, 2, 10, 1, false), 1);
    c.due("k 3 stays 3", t.in(0, 0, 2, 0, 2, 0, 3, false), 1000);
    c.due("k 2 is as good", t.in(0, 0, 2, 0, 2, 0, 2, false), 1000);
    // All Q are 1000: nothing is left for a month without a scrape.
    RungHouse all = c.withSort(c.withHouse(new RungHouse(), 0, "rung 0;first 10;"), "scrape 5 1;scrape 30 999;");
    c.due("a month of 5 or 10", all.in(0, 0, 1, 0, 0, 11, 0, false), 5 + 9990);
    c.due("a year of them", all.in(0, 0, 1, 0, 0, 0, 0, false), 12 * 9995);

    c.says(PART, "IN at MONTH 12: COST (y and 1, NEXT of r by k).");
    for (int k = 0; k < 4; k++) {
      c.due("k " + k + " of rung 1", x.in(0, 0, 3, 0, 1, 12, k, false), x.cost(0, 0, 3, 1, x.next(0, 1, k)));
      c.due("k " + k + " with pains", x.in(1, 0, 3, 0, 1, 12, k, true), x.cost(1, 0, 3, 1, x.next(0, 1, k)));
      c.due("k " + k + " in the last year", x.in(0, 0, 3, 2, 1, 12, k, false), 0);
    }
    c.due("up", x.in(0, 0, 2, 0, 0, 12, 0, false), 72000);
    c.due("down", x.in(0, 0, 2, 0, 1, 12, 1, false), 112000);
  }

  private static void theBar() {
    c.says(PART, "THE BAR at (y, r, m, k), with pains or not: the least S of the SORT that one ASKS for by THE BEST WAY; NONE.");
    RungHouse x = example();
    c.due("asking is less by 2000", x.bar(0, 0, 2, 0, 0, 0, 0, false), 30);
    c.due("alike", x.bar(0, 0, 2, 0, 0, 1, 0, false), Check.NONE);
    c.due("without pains", x.bar(1, 0, 2, 0, 0, 0, 0, false), 30);
    c.due("with pains", x.bar(1, 0, 2, 0, 0, 0, 0, true), Check.NONE);
    RungHouse z = c.withHouse(new RungHouse(), 0, "rung 0;first 10;");
    c.withSort(z, "scrape 9 1;scrape 10 1;scrape 11 1;scrape 12 1;");
    c.withSort(z, "scrape 9 1;scrape 10 1;");
    c.withSort(z, "scrape 1 1;");
    c.due("F itself is not less, one more is", z.bar(0, 0, 1, 0, 0, 11, 0, false), 11);
    c.due("none above F", z.bar(1, 0, 1, 0, 0, 11, 0, false), Check.NONE);
    c.due("none at 3 askings", z.bar(1, 0, 1, 0, 0, 0, 3, false), Check.NONE);
    c.withHouse(z, 1, "rung 0;");
    c.due("the least there can be", z.bar(2, 1, 1, 0, 0, 0, 3, false), 1);
    c.due("the first of four", z.bar(0, 1, 1, 0, 0, 0, 0, false), 9);
    // Down is the cheaper rung: one asks even for what F does not spare.
    c.withHouse(z, 1, "rung 0;rung 500;down 1;first 99;");
    c.due("asks for nothing's sake", z.bar(1, 1, 2, 0, 1, 11, 0, false), 9);
  }

  private static void ruleTexts() {
    c.says(PART, "RULES (4 at most) are texts (120 bytes at most): clauses 'bar' B ['rungs' a b] ['months' a b] ';' (B 0 .. 999; RUNGS a to b, 0 .. 9; "
        + "MONTHS a to b, 0 .. 11; b not less than a, else 2 at b; 6 clauses at most, 3 at the seventh's first letter):");
    RungHouse x = new RungHouse();
    for (int i = 0; i < 4; i++) c.due("rule " + i, Check.tell(x, "bar 1;").rule(), i);
    c.due("a fifth", Check.tell(x, "bar 1;").rule(), Check.FULL);
    c.due("120 bytes", Check.tell(new RungHouse(), "bar 1;" + " ".repeat(114)).rule(), 0);
    c.due("121 bytes", Check.tell(new RungHouse(), "bar 1;" + " ".repeat(115)).rule(), Check.NOT);
    c.reads("rule", "bar 0;", 0, -1);
    c.reads("rule", "bar 999;", 0, -1);
    c.reads("rule", "bar 1000;", -12, 4);
    c.reads("rule", "bar 1 rungs 0 9;", 0, -1);
    c.reads("rule", "bar 1 rungs 9 9;", 0, -1);
    c.reads("rule", "bar 1 rungs 0 0;", 0, -1);
    c.reads("rule", "bar 1 rungs 10 10;", -12, 12);
    c.reads("rule", "bar 1 rungs 0 10;", -12, 14);
    c.reads("rule", "bar 1 rungs 5 5;", 0, -1);
    c.reads("rule", "bar 1 rungs 5 4;", -12, 14);
    c.reads("rule", "bar 1 months 0 11;", 0, -1);
    c.reads("rule", "bar 1 months 11 11;", 0, -1);
    c.reads("rule", "bar 1 months 12 12;", -12, 13);
    c.reads("rule", "bar 1 months 0 12;", -12, 15);
    c.reads("rule", "bar 1 months 5 5;", 0, -1);
    c.reads("rule", "bar 1 months 5 4;", -12, 15);
    c.reads("rule", "bar 1 rungs 0 9 months 0 11;", 0, -1);
    c.reads("rule", "bar 1 months 0 11 rungs 0 9;", -11, 18);
    c.reads("rule", "bar 1 rungs 0 9 rungs 0 9;", -11, 16);
    c.reads("rule", "bar 1 months 0 1 months 0 1;", -11, 17);
    c.reads("rule", "bar 1 rungs 0;", -11, 13);
    c.reads("rule", "bar 1 months;", -11, 12);
    c.reads("rule", "bar 1 rungs 0 1 2;", -11, 16);
    c.reads("rule", "bar;", -11, 3);
    c.reads("rule", "bar 1", -11, 5);
    c.reads("rule", "bar rungs 0 1;", -11, 4);
    c.reads("rule", "bar 1;".repeat(6), 0, -1);
    c.reads("rule", "bar 1;".repeat(7), -13, 36);
    c.reads("rule", "bar 1;".repeat(6) + "  bar", -13, 38);
    c.reads("rule", "bar 1;".repeat(6) + "zap", -11, 36);

    c.says(PART, "FAULTS 1, 2 as told; a text of none is a RULE.");
    c.reads("rule", "", 0, -1);
    c.reads("rule", "   ", 0, -1);
    c.reads("rule", ";", -11, 0);
    c.reads("rule", "rung 1;", -11, 0);
    c.reads("rule", "bars 1;", -11, 0);
    c.reads("rule", "ba", -11, 0);
    c.reads("rule", "bar 1 month 0 1;", -11, 6);
    c.reads("rule", "bar 0001;", -12, 4);
    c.reads("rule", "bar 1 rungs 0001 1;", -12, 12);
    c.reads("rule", "bar 1000 zap", -12, 4);
  }

  /** Four rungs for nothing, no first sum: a scrape of 30, 100 of 1000: each month that it is not asked for costs 3000. */
  private static int notAsked(String rule, int r) {
    RungHouse x = c.withHouse(new RungHouse(), 0, "rung 0;rung 0;rung 0;rung 0;");
    c.withSort(x, "scrape 30 100;");
    c.withRule(x, rule);
    return x.fixed(0, 0, 0, 1, 0, r);
  }

  private static void ruleAsks() {
    c.says(PART, "of the first that is so of RUNG and MONTH one ASKS for S of B or more; without one for all.");
    c.due("no clause", notAsked("", 0), 0);
    c.due("B less than S", notAsked("bar 29;", 0), 0);
    c.due("B is S", notAsked("bar 30;", 0), 0);
    c.due("B more than S", notAsked("bar 31;", 0), 36000);
    c.due("B 0", notAsked("bar 0;", 0), 0);
    c.due("B 999", notAsked("bar 999;", 3), 36000);
    int[] byRung = {0, 36000, 36000, 0};
    for (int r = 0; r < 4; r++) c.due("rungs 1 2 on rung " + r, notAsked("bar 31 rungs 1 2;", r), byRung[r]);
    c.due("rungs 3 9 on the top", notAsked("bar 31 rungs 3 9;", 3), 36000);
    c.due("rungs 4 9 on the top", notAsked("bar 31 rungs 4 9;", 3), 0);
    c.due("months 3 5", notAsked("bar 31 months 3 5;", 0), 9000);
    c.due("month 0", notAsked("bar 31 months 0 0;", 0), 3000);
    c.due("month 11", notAsked("bar 31 months 11 11;", 0), 3000);
    c.due("months 0 11", notAsked("bar 31 months 0 11;", 0), 36000);
    c.due("both so", notAsked("bar 31 rungs 2 2 months 1 2;", 2), 6000);
    c.due("the RUNG not so", notAsked("bar 31 rungs 2 2 months 1 2;", 1), 0);
    c.due("the first that is so asks", notAsked("bar 30 months 3 5;bar 31 months 5 6;", 0), 3000);
    c.due("the first that is so does not", notAsked("bar 31 months 5 6;bar 30 months 3 5;", 0), 6000);
    c.due("the sixth", notAsked("bar 1 rungs 9 9;".repeat(5) + "bar 31;", 0), 36000);
    c.due("none of six", notAsked("bar 31 rungs 9 9;".repeat(6), 0), 0);
    // S of B and less than B beside one another: half of them ask in each of eleven months (cut), in MONTH 11 none.
    RungHouse x = c.withHouse(new RungHouse(), 0, "rung 0;rung 0;down 1;");
    c.withSort(x, "scrape 30 500;scrape 31 500;");
    c.withRule(x, "bar 31 months 0 10;bar 999;");
    // .. 31250, 15625, 7813, 3907, 1954, 977, 489 have not asked.
    c.due("30 is borne, 31 is asked for", x.odds(0, 0, 0, 1, 0, 0), 489);
  }

  private static void fixedOfRule() {
    c.says(PART, "FIXED of a RULE: COST by it over Y years, never with pains (as above, but by the RULE).");
    RungHouse x = example();
    c.due("all", x.fixed(0, 0, 0, 1, 0, 0), 112000);
    c.due("none", x.fixed(1, 0, 0, 1, 0, 0), 136000);
    c.due("none, thirty years", x.fixed(1, 0, 0, 30, 0, 0), 136000 + 29 * 96000);
    c.due("after them", x.fixed(1, 0, 0, 30, 30, 0), 0);
    c.due("the best way would take pains", x.takes(1, 0, 1, 0, 0), 1);
    c.due("a rule does not", x.fixed(0, 1, 0, 1, 0, 0), 112000);
    // By the rule one asks though it is dearer: in MONTH 11 of the year ahead of the last one.
    c.due("asked for all, two years", x.fixed(0, 0, 0, 2, 0, 1) > x.cost(0, 0, 2, 0, 1) ? 1 : 0, 1);
    RungHouse free = c.withRule(c.withSort(c.withHouse(new RungHouse(), 0, "rung 5;"), "scrape 30 100;pains 0 100;"), "bar 31;");
    c.due("pains for nothing are not taken", free.fixed(0, 0, 0, 1, 0, 0), 5000 + 36000);
  }

  private static void lifeAndJudged() {
    c.says(PART, "A LIFE is a row of scrapes in one year: MONTH (rising, one a MONTH), S, whether ASKED.");
    RungHouse x = example();
    c.due("MONTH 3", x.scrape(3, 5, true), 1);
    c.due("MONTH 3 again", x.scrape(3, 6, false), Check.NOT);
    c.due("MONTH 2", x.scrape(2, 5, true), Check.NOT);
    c.due("MONTH 4", x.scrape(4, 5, false), 2);
    c.due("MONTH 11", x.scrape(11, 5, false), 3);
    c.due("behind MONTH 11", x.scrape(11, 5, false), Check.NOT);
    RungHouse all = new RungHouse();
    for (int m = 0; m < 12; m++) c.due("MONTH " + m + " of all", all.scrape(m, 1, true), m + 1);
    c.due("a thirteenth", all.scrape(0, 1, true), Check.NOT);

    c.says(PART, "JUDGED by THE BEST WAY of a SORT in year y of Y on RUNG r, no pains: the first scrape at which it does the other "
        + "(S need not be one of the SORT; NONE).");
    c.due("no life", example().judge(0, 0, 2, 0, 0), Check.NONE);
    // In MONTH 0 an asking costs 18000 later: 28 spares as much, so it is borne, 29 is asked for.
    c.due("28 borne", judged(0, false, 0, 28), Check.NONE);
    c.due("28 asked for", judged(0, true, 0, 28), 0);
    c.due("29 asked for", judged(0, true, 0, 29), Check.NONE);
    c.due("29 borne", judged(0, false, 0, 29), 0);
    // In MONTH 1 it costs 20000 later, in MONTH 11 40000.
    c.due("30 borne in MONTH 1", judged(0, false, 1, 30), Check.NONE);
    c.due("31 borne in MONTH 1", judged(0, false, 1, 31), 0);
    c.due("50 borne in MONTH 11", judged(0, false, 11, 50), Check.NONE);
    c.due("51 borne in MONTH 11", judged(0, false, 11, 51), 0);
    c.due("51 asked for in MONTH 11", judged(0, true, 11, 51), Check.NONE);
    // In the last year all above F is asked for.
    c.due("F itself in the last year", judged(1, false, 0, 10), Check.NONE);
    c.due("F asked for in the last year", judged(1, true, 0, 10), 0);
    c.due("one above F in the last year", judged(1, true, 0, 11), Check.NONE);
    c.due("1 and 999", judged(0, false, 0, 1) + judged(0, true, 11, 999), 2 * Check.NONE);
    // With pains 29 would be borne in MONTH 0, as an asking costs 29000 later then.
    RungHouse pained = example();
    pained.scrape(0, 29, true);
    c.due("no pains", pained.judge(1, 0, 2, 0, 0), Check.NONE);
    RungHouse row = example();
    row.scrape(0, 40, true);
    for (int m = 1; m < 11; m++) row.scrape(m, 11, true);
    c.due("asked once, all above F goes on", row.judge(0, 0, 2, 0, 0), Check.NONE);
    row.keep(0);
    row.scrape(11, 11, true);
    c.due("all twelve", row.judge(0, 0, 2, 0, 0), Check.NONE);
    row.goBack(0);
    row.scrape(11, 11, false);
    c.due("the last of twelve", row.judge(0, 0, 2, 0, 0), 11);
    RungHouse first = example();
    first.scrape(0, 1, false);
    first.scrape(1, 1, true);
    first.scrape(2, 1, true);
    c.due("the first of two", first.judge(0, 0, 2, 0, 0), 1);
  }

  private static int judged(int y, boolean asked, int month, int sum) {
    RungHouse x = example();
    x.scrape(month, sum, asked);
    return x.judge(0, 0, 2, y, 1);
  }

  // ---------------------------------------------------------------- promises 11 to 17

  private static void cost() {
    c.says("Promise 11", "COST.");
    RungHouse x = example();
    c.due("of one year", x.cost(0, 0, 1, 0, 1), 72000);
    c.due("of two", x.cost(0, 0, 2, 0, 1), 167800);
    c.due("of thirty, with and without what was reckoned ahead", x.cost(0, 0, 30, 0, 0), example().cost(0, 0, 30, 0, 0));
    c.due("with pains", x.cost(1, 0, 1, 0, 0), 107000);

    c.says("Promise 11", "UNKNOWN, OUTSIDE (Y; y 0 .. Y).");
    c.bounds("s", 0, 1, Check.UNKNOWN, s -> x.cost(s, 0, 2, 0, 0));
    c.bounds("h", 0, 1, Check.UNKNOWN, h -> x.cost(0, h, 2, 0, 0));
    c.bounds("r", 0, 1, Check.UNKNOWN, r -> x.cost(0, 0, 2, 0, r));
    c.bounds("r of house 1", 0, 2, Check.UNKNOWN, r -> x.cost(0, 1, 2, 0, r));
    c.bounds("Y", 1, 30, Check.OUTSIDE, years -> x.cost(0, 0, years, 0, 0));
    c.bounds("y of 3", 0, 3, Check.OUTSIDE, y -> x.cost(0, 0, 3, y, 0));
    c.bounds("y of 30", 0, 30, Check.OUTSIDE, y -> x.cost(0, 0, 30, y, 0));
    c.due("y beyond 31 years", x.cost(0, 0, 31, 31, 0), Check.OUTSIDE);
  }

  private static void in() {
    c.says("Promise 12", "IN, with pains or not (of a SORT that has none told: without).");
    RungHouse x = example();
    c.due("without", x.in(1, 0, 2, 0, 0, 0, 0, false), 102800);
    c.due("with", x.in(1, 0, 2, 0, 0, 0, 0, true), 85000);
    c.due("none told: without", x.in(0, 0, 2, 0, 0, 0, 0, false), 107800);
    c.due("none told: with", x.in(0, 0, 2, 0, 0, 0, 0, true), 107800);

    c.says("Promise 12", "UNKNOWN, OUTSIDE (y 0 .. Y less 1, m 0 .. 12, k 0 .. 3).");
    c.bounds("s", 0, 1, Check.UNKNOWN, s -> x.in(s, 0, 2, 0, 0, 0, 0, true));
    c.bounds("h", 0, 1, Check.UNKNOWN, h -> x.in(0, h, 2, 0, 0, 0, 0, true));
    c.bounds("r", 0, 1, Check.UNKNOWN, r -> x.in(0, 0, 2, 0, r, 0, 0, true));
    c.bounds("Y", 1, 30, Check.OUTSIDE, years -> x.in(0, 0, years, 0, 0, 0, 0, true));
    c.bounds("y of 1", 0, 0, Check.OUTSIDE, y -> x.in(0, 0, 1, y, 0, 0, 0, true));
    c.bounds("y of 30", 0, 29, Check.OUTSIDE, y -> x.in(0, 0, 30, y, 0, 0, 0, true));
    c.bounds("m", 0, 12, Check.OUTSIDE, m -> x.in(0, 0, 2, 0, 0, m, 0, true));
    c.bounds("k", 0, 3, Check.OUTSIDE, k -> x.in(0, 0, 2, 0, 0, 0, k, true));
    c.bounds("k at MONTH 12", 0, 3, Check.OUTSIDE, k -> x.in(0, 0, 2, 0, 0, 12, k, false));
  }

  private static void takes() {
    c.says("Promise 13", "Whether pains are taken at the beginning of year y: 1, 0.");
    RungHouse x = example();
    c.due("none told", x.takes(0, 0, 2, 0, 0), 0);
    c.due("taken", x.takes(1, 0, 2, 0, 0), 1);
    c.due("taken in the last year", x.takes(1, 0, 2, 1, 1), 1);
    // For 7 coins not in the last year, which they would spare 6; but ahead of it, where they spare what was borne, 15.
    c.withSort(x, "scrape 30 100;pains 7 50;");
    c.due("7 coins in the last year", x.takes(2, 0, 2, 1, 0), 0);
    c.due("7 coins ahead of it", x.takes(2, 0, 2, 0, 0), 1);

    c.says("Promise 13", "UNKNOWN, OUTSIDE (y 0 .. Y less 1).");
    c.bounds("s", 0, 2, Check.UNKNOWN, s -> x.takes(s, 0, 2, 0, 0));
    c.bounds("h", 0, 1, Check.UNKNOWN, h -> x.takes(1, h, 2, 0, 0));
    c.bounds("r", 0, 1, Check.UNKNOWN, r -> x.takes(1, 0, 2, 0, r));
    c.bounds("Y", 1, 30, Check.OUTSIDE, years -> x.takes(1, 0, years, 0, 0));
    c.bounds("y of 1", 0, 0, Check.OUTSIDE, y -> x.takes(1, 0, 1, y, 0));
    c.bounds("y of 30", 0, 29, Check.OUTSIDE, y -> x.takes(1, 0, 30, y, 0));
  }

  private static void bar() {
    c.says("Promise 14", "THE BAR (pains as in in()); NONE.");
    RungHouse x = example();
    c.due("without", x.bar(1, 0, 2, 0, 0, 0, 0, false), 30);
    c.due("with: none", x.bar(1, 0, 2, 0, 0, 0, 0, true), Check.NONE);
    c.due("none told: without", x.bar(0, 0, 2, 0, 0, 0, 0, true), 30);
    c.due("asked already", x.bar(0, 0, 2, 0, 0, 11, 3, false), 30);
    c.due("none at MONTH 11", x.bar(0, 0, 2, 0, 0, 11, 0, false), Check.NONE);
    c.due("in the last year", x.bar(0, 0, 2, 1, 0, 11, 0, false), 30);
    c.due("in the last of thirty", x.bar(0, 0, 30, 29, 1, 11, 0, false), 30);
    c.due("in the last but one of thirty", x.bar(0, 0, 30, 28, 1, 11, 0, false), Check.NONE);

    c.says("Promise 14", "UNKNOWN, OUTSIDE (m 0 .. 11).");
    c.bounds("s", 0, 1, Check.UNKNOWN, s -> x.bar(s, 0, 2, 0, 0, 0, 0, true));
    c.bounds("h", 0, 1, Check.UNKNOWN, h -> x.bar(0, h, 2, 0, 0, 0, 0, true));
    c.bounds("r", 0, 1, Check.UNKNOWN, r -> x.bar(0, 0, 2, 0, r, 0, 0, true));
    c.bounds("Y", 1, 30, Check.OUTSIDE, years -> x.bar(0, 0, years, 0, 0, 0, 0, true));
    c.bounds("y of 2", 0, 1, Check.OUTSIDE, y -> x.bar(0, 0, 2, y, 0, 0, 0, true));
    c.bounds("m", 0, 11, Check.OUTSIDE, m -> x.bar(0, 0, 2, 0, 0, m, 0, true));
    c.bounds("k", 0, 3, Check.OUTSIDE, k -> x.bar(0, 0, 2, 0, 0, 0, k, true));
  }

  private static void fixed() {
    c.says("Promise 15", "FIXED at (y, r).");
    RungHouse x = example();
    c.due("year 0, rung 0", x.fixed(1, 0, 0, 2, 0, 0), 136000 + 96000);
    c.due("year 0, rung 1", x.fixed(1, 0, 0, 2, 0, 1), 96000 + 96000);
    c.due("year 1, rung 0", x.fixed(1, 0, 0, 2, 1, 0), 136000);
    c.due("year 2", x.fixed(1, 0, 0, 2, 2, 0), 0);
    c.due("the best way is as it was", x.cost(0, 0, 2, 0, 0), 207800);

    c.says("Promise 15", "UNKNOWN, OUTSIDE.");
    c.bounds("rule", 0, 1, Check.UNKNOWN, rule -> x.fixed(rule, 0, 0, 2, 0, 0));
    c.bounds("s", 0, 1, Check.UNKNOWN, s -> x.fixed(0, s, 0, 2, 0, 0));
    c.bounds("h", 0, 1, Check.UNKNOWN, h -> x.fixed(0, 0, h, 2, 0, 0));
    c.bounds("r", 0, 1, Check.UNKNOWN, r -> x.fixed(0, 0, 0, 2, 0, r));
    c.bounds("Y", 1, 30, Check.OUTSIDE, years -> x.fixed(0, 0, 0, years, 0, 0));
    c.bounds("y of 2", 0, 2, Check.OUTSIDE, y -> x.fixed(0, 0, 0, 2, y, 0));
    c.bounds("y of 30", 0, 30, Check.OUTSIDE, y -> x.fixed(0, 0, 0, 30, y, 0));
    c.due("rule and Y", x.fixed(2, 0, 0, 31, 0, 0), Check.UNKNOWN);
  }

  private static void scrape() {
    c.says("Promise 16", "A scrape behind THE LIFE: how many it has.");
    RungHouse x = new RungHouse();
    c.due("the first", x.scrape(0, 1, true), 1);
    c.due("the second", x.scrape(11, 999, false), 2);
    c.due("count", x.count(2), 2);

    c.says("Promise 16", "OUTSIDE (MONTH, S 1 .. 999), NOT: the MONTH does not rise.");
    c.bounds("MONTH", 0, 11, Check.OUTSIDE, month -> new RungHouse().scrape(month, 1, true));
    c.bounds("S", 1, 999, Check.OUTSIDE, sum -> new RungHouse().scrape(0, sum, false));
    RungHouse z = new RungHouse();
    z.scrape(5, 1, true);
    c.due("the same", z.scrape(5, 1, true), Check.NOT);
    c.due("the one ahead", z.scrape(4, 1, true), Check.NOT);
    c.due("S and the same", z.scrape(5, 0, true), Check.OUTSIDE);
    c.due("none of these is there", z.count(2), 1);
    c.due("the next", z.scrape(6, 1, true), 2);
    z.clear();
    c.due("anew", z.scrape(0, 1, true), 1);
  }

  private static void judge() {
    c.says("Promise 17", "JUDGED: the scrape; NONE.");
    RungHouse x = example();
    c.due("no life", x.judge(0, 0, 2, 0, 0), Check.NONE);
    x.scrape(0, 29, true);
    c.due("as the best way", x.judge(0, 0, 2, 0, 0), Check.NONE);
    x.scrape(1, 10, true);
    c.due("scrape 1", x.judge(0, 0, 2, 0, 0), 1);
    x.clear();
    x.scrape(7, 10, true);
    c.due("scrape 0", x.judge(0, 0, 2, 0, 0), 0);
    x.clear();
    c.due("no life any more", x.judge(0, 0, 2, 0, 0), Check.NONE);

    c.says("Promise 17", "UNKNOWN, OUTSIDE.");
    c.bounds("s", 0, 1, Check.UNKNOWN, s -> x.judge(s, 0, 2, 0, 0));
    c.bounds("h", 0, 1, Check.UNKNOWN, h -> x.judge(0, h, 2, 0, 0));
    c.bounds("r", 0, 1, Check.UNKNOWN, r -> x.judge(0, 0, 2, 0, r));
    c.bounds("Y", 1, 30, Check.OUTSIDE, years -> x.judge(0, 0, years, 0, 0));
    c.bounds("y of 2", 0, 1, Check.OUTSIDE, y -> x.judge(0, 0, 2, y, 0));
    c.bounds("y of 30", 0, 29, Check.OUTSIDE, y -> x.judge(0, 0, 30, y, 0));
  }
}
