/**
 * Promises 11 to 17 and 24 to 28: the best way and what else one may do, on an example that is worked out by hand.
 *
 * The house: rungs 100 and 60, one up, one down, first 10. Sort 0: a scrape of 30, 100 of 1000 a month.
 * The last year: all is 0 behind it, so one asks (10 is less than 30): 1000 a month, 12000 a year: COST 112000, 72000.
 * The year ahead of it: without an asking 72000 stands behind it, with one 112000.
 *   k 1 and on: 112000 and 1000 for each month left. k 0: bearing is 3000 for each month left.
 *   In month m both are 40000 less 2000 times (11 less m) apart behind the month; asking spares 20000: so one asks
 *   in month 0 (18000 apart), and bears in month 1 (20000: not less) and later.
 *   IN (0, r, 0, 0) = (100 times (10000 and 123000) and 900 times 105000) / 1000 = 107800: COST 207800, 167800.
 */
public final class BestWayTest {
  private static final Check c = new Check();
  private static final String HOUSE = "rung 100;rung 60;down 1;first 10;";

  public static void main(String[] args) {
    cost();
    in();
    takes();
    bar();
    fixed();
    scrape();
    judge();
    buy();
    keepRung();
    leave();
    pad();
    setting();
    settingByHand();
    settingEnds();
    retold();
    c.close("BestWayTest");
  }

  private static RungHouse example() {
    RungHouse x = c.withHouse(new RungHouse(), 0, HOUSE);
    c.withSort(x, "scrape 30 100;");
    c.withSort(x, "scrape 30 100;pains 1 50;");
    c.withSort(x, "scrape 30 100;pains 6 50;");
    c.withSort(x, "scrape 30 1;pains 0 1;");
    return x;
  }

  private static void cost() {
    RungHouse x = example();
    c.due("last year, 0", x.cost(0, 0, 1, 0, 0), 112000);
    c.due("last year, 1", x.cost(0, 0, 1, 0, 1), 72000);
    c.due("two years, 0", x.cost(0, 0, 2, 0, 0), 207800);
    c.due("two years, 1", x.cost(0, 0, 2, 0, 1), 167800);
    c.due("two of thirty", x.cost(0, 0, 30, 28, 0), 207800);
    c.due("after all", x.cost(0, 0, 30, 30, 1), 0);
    c.due("with pains", x.cost(1, 0, 1, 0, 0), 107000);
    c.due("pains alike", x.cost(2, 0, 1, 0, 0), 112000);
    c.due("chances cut to none", x.cost(3, 0, 1, 0, 1), 60000);
    c.due("y beyond", x.cost(0, 0, 2, 3, 0), Check.OUTSIDE);
    c.due("y below", x.cost(0, 0, 2, -1, 0), Check.OUTSIDE);
    c.due("Y 0", x.cost(0, 0, 0, 0, 0), Check.OUTSIDE);
    c.due("Y 31", x.cost(0, 0, 31, 0, 0), Check.OUTSIDE);
    c.due("rung 2", x.cost(0, 0, 31, 0, 2), Check.UNKNOWN);
    c.due("rung -1", x.cost(0, 0, 1, 0, -1), Check.UNKNOWN);
    c.due("sort 4", x.cost(4, 0, 1, 0, 0), Check.UNKNOWN);
    c.due("house 1", x.cost(0, 1, 1, 0, 0), Check.UNKNOWN);
    c.due("house -1", x.cost(0, -1, 1, 0, 0), Check.UNKNOWN);
  }

  private static void in() {
    RungHouse x = example();
    c.due("behind the year, none", x.in(0, 0, 2, 0, 0, 12, 0, false), 72000);
    for (int k = 1; k < 4; k++) c.due("behind the year, " + k, x.in(0, 0, 2, 0, 1, 12, k, false), 112000);
    c.due("behind all", x.in(0, 0, 2, 1, 1, 12, 3, false), 0);
    c.due("month 11", x.in(0, 0, 2, 0, 0, 11, 0, false), 75000);
    c.due("month 1", x.in(0, 0, 2, 0, 0, 1, 0, false), 105000);
    c.due("month 0", x.in(0, 0, 2, 0, 0, 0, 0, false), 107800);
    c.due("month 1, asked once", x.in(0, 0, 2, 0, 0, 1, 1, false), 123000);
    c.due("month 1, asked thrice", x.in(0, 0, 2, 0, 0, 1, 3, false), 123000);
    c.due("pains untold", x.in(0, 0, 2, 0, 0, 0, 0, true), 107800);
    c.due("pains in the last year", x.in(1, 0, 1, 0, 0, 0, 0, true), 6000);
    c.due("no pains in the last year", x.in(1, 0, 1, 0, 0, 0, 0, false), 12000);
    c.due("pains, year 0, behind it", x.in(1, 0, 2, 0, 0, 12, 1, false), 107000);
    c.due("m 13", x.in(0, 0, 2, 0, 0, 13, 0, false), Check.OUTSIDE);
    c.due("m -1", x.in(0, 0, 2, 0, 0, -1, 0, false), Check.OUTSIDE);
    c.due("k 4", x.in(0, 0, 2, 0, 0, 0, 4, false), Check.OUTSIDE);
    c.due("k -1", x.in(0, 0, 2, 0, 0, 0, -1, false), Check.OUTSIDE);
    c.due("y 2", x.in(0, 0, 2, 2, 0, 0, 0, false), Check.OUTSIDE);
    c.due("Y 31", x.in(0, 0, 31, 0, 0, 0, 0, false), Check.OUTSIDE);
    c.due("UNKNOWN first", x.in(0, 0, 31, 0, 2, 13, 4, false), Check.UNKNOWN);
    c.due("sort", x.in(4, 0, 2, 0, 0, 0, 0, false), Check.UNKNOWN);
  }

  private static void takes() {
    RungHouse x = example();
    c.due("untold", x.takes(0, 0, 1, 0, 0), 0);
    c.due("worth it", x.takes(1, 0, 1, 0, 0), 1);
    c.due("worth it in the last year", x.takes(1, 0, 30, 29, 1), 1);
    c.due("alike", x.takes(2, 0, 1, 0, 0), 0);
    c.due("for nothing", x.takes(3, 0, 1, 0, 0), 1);
    c.due("y Y", x.takes(1, 0, 1, 1, 0), Check.OUTSIDE);
    c.due("y -1", x.takes(1, 0, 1, -1, 0), Check.OUTSIDE);
    c.due("Y 0", x.takes(1, 0, 0, 0, 0), Check.OUTSIDE);
    c.due("rung", x.takes(1, 0, 1, 0, 2), Check.UNKNOWN);
  }

  private static void bar() {
    RungHouse x = example();
    c.due("month 0", x.bar(0, 0, 2, 0, 0, 0, 0, false), 30);
    c.due("month 1, alike", x.bar(0, 0, 2, 0, 0, 1, 0, false), Check.NONE);
    c.due("month 11", x.bar(0, 0, 2, 0, 0, 11, 0, false), Check.NONE);
    c.due("asked once", x.bar(0, 0, 2, 0, 0, 11, 1, false), 30);
    c.due("last year", x.bar(0, 0, 2, 1, 0, 11, 0, false), 30);
    c.due("chance cut to none", x.bar(3, 0, 1, 0, 0, 0, 0, true), 30);
    c.due("m 12", x.bar(0, 0, 2, 0, 0, 12, 0, false), Check.OUTSIDE);
    c.due("m -1", x.bar(0, 0, 2, 0, 0, -1, 0, false), Check.OUTSIDE);
    c.due("k 4", x.bar(0, 0, 2, 0, 0, 0, 4, false), Check.OUTSIDE);
    c.due("y 2", x.bar(0, 0, 2, 2, 0, 0, 0, false), Check.OUTSIDE);
    c.due("rung 2", x.bar(0, 0, 2, 0, 2, 12, 0, false), Check.UNKNOWN);

    RungHouse z = c.withHouse(new RungHouse(), 0, HOUSE);
    c.withSort(z, "scrape 10 1;scrape 11 1;");
    c.due("10 is the first sum, 11 above it", z.bar(0, 0, 1, 0, 0, 0, 0, false), 11);
    c.withHouse(z, 1, "rung 5;rung 5;first 8;");
    c.withSort(z, "scrape 1 1;scrape 2 1;scrape 3 1;scrape 4 1;scrape 5 1;scrape 6 1;scrape 7 1;scrape 8 1;");
    c.due("none of eight", z.bar(1, 1, 3, 0, 0, 5, 2, false), Check.NONE);
    c.due("none of eight, odds", z.odds(1, 1, -1, 3, 0, 0), 1000000);
    c.due("none of eight, borne", z.cost(1, 1, 1, 0, 0), 5000 + 12 * 36);
    // Where the lower rung is the cheaper one, one asks for nothing's sake.
    c.withHouse(z, 1, "rung 0;rung 500;down 1;first 99;");
    c.due("asks to go down", z.bar(0, 1, 2, 0, 1, 11, 0, false), 10);
    c.due("is down already", z.bar(0, 1, 2, 0, 1, 11, 1, false), Check.NONE);
  }

  private static void fixed() {
    RungHouse x = example();
    String[] rules = {"", "bar 31;", "bar 31 rungs 1 1;", "bar 31 rungs 0 0 months 0 2;bar 30 rungs 0 0;bar 31;"};
    for (String rule : rules) c.withRule(x, rule);
    c.due("all", x.fixed(0, 0, 0, 1, 0, 0), 112000);
    c.due("none", x.fixed(1, 0, 0, 1, 0, 0), 136000);
    c.due("none, two years", x.fixed(1, 0, 0, 2, 0, 0), 232000);
    c.due("none, two years, rung 1", x.fixed(1, 0, 0, 2, 0, 1), 192000);
    c.due("none, thirty years", x.fixed(1, 0, 0, 30, 0, 0), 136000 + 29 * 96000);
    c.due("by rung, 0", x.fixed(2, 0, 0, 1, 0, 0), 112000);
    c.due("by rung, 1", x.fixed(2, 0, 0, 1, 0, 1), 96000);
    c.due("the first that is so", x.fixed(3, 0, 0, 1, 0, 0), 118000);
    c.due("the last of them", x.fixed(3, 0, 0, 1, 0, 1), 96000);
    c.due("never with pains", x.fixed(0, 1, 0, 1, 0, 0), 112000);
    c.due("later year", x.fixed(1, 0, 0, 30, 28, 0), 232000);
    c.due("after all", x.fixed(1, 0, 0, 30, 30, 0), 0);
    c.due("rule 4", x.fixed(4, 0, 0, 1, 0, 0), Check.UNKNOWN);
    c.due("rule NONE", x.fixed(-1, 0, 0, 1, 0, 0), Check.UNKNOWN);
    c.due("sort 4", x.fixed(0, 4, 0, 1, 0, 0), Check.UNKNOWN);
    c.due("rung 2", x.fixed(0, 0, 0, 0, 0, 2), Check.UNKNOWN);
    c.due("y", x.fixed(0, 0, 0, 1, 2, 0), Check.OUTSIDE);
    c.due("Y", x.fixed(0, 0, 0, 31, 0, 0), Check.OUTSIDE);
    c.due("the best way is untouched", x.cost(0, 0, 2, 0, 0), 207800);
  }

  private static void scrape() {
    RungHouse x = new RungHouse();
    c.due("month 12", x.scrape(12, 1, true), Check.OUTSIDE);
    c.due("month -1", x.scrape(-1, 1, true), Check.OUTSIDE);
    c.due("sum 0", x.scrape(0, 0, true), Check.OUTSIDE);
    c.due("sum 1000", x.scrape(0, 1000, true), Check.OUTSIDE);
    for (int m = 0; m < 12; m++) {
      c.due("month " + m, x.scrape(m, 999, false), m + 1);
      c.due("month " + m + " again", x.scrape(m, 1, true), Check.NOT);
      c.due("month 0 again", x.scrape(0, 1, true), Check.NOT);
      c.due("OUTSIDE first", x.scrape(0, 0, true), Check.OUTSIDE);
    }
    c.due("count", x.count(2), 12);
    c.due("clear", x.clear(), 12);
    c.due("anew", x.scrape(0, 1, true), 1);
  }

  private static void judge() {
    RungHouse x = example();
    c.due("no life", x.judge(0, 0, 2, 0, 0), Check.NONE);
    x.scrape(0, 28, false);
    x.scrape(1, 30, false);
    x.scrape(2, 40, true);
    x.scrape(3, 11, true);
    c.due("as the best way", x.judge(0, 0, 2, 0, 0), Check.NONE);
    c.due("in the last year", x.judge(0, 0, 2, 1, 0), 0);
    x.scrape(4, 10, true);
    c.due("asked for the first sum", x.judge(0, 0, 2, 0, 1), 4);
    x.scrape(5, 10, true);
    c.due("still the first", x.judge(0, 0, 2, 0, 1), 4);
    c.due("y", x.judge(0, 0, 2, 2, 0), Check.OUTSIDE);
    c.due("Y", x.judge(0, 0, 31, 0, 0), Check.OUTSIDE);
    c.due("rung", x.judge(0, 0, 31, 0, 2), Check.UNKNOWN);
    x.clear();
    x.scrape(0, 29, false);
    c.due("bore what one asks for", x.judge(0, 0, 2, 0, 0), 0);
    // With pains both would be 29000 apart behind month 0, and 29 would be borne rightly.
    c.due("no pains", x.judge(1, 0, 2, 0, 0), 0);
  }

  private static void buy() {
    RungHouse x = example();
    c.due("once", x.buy(0, 0, 2, 0, 1, 1), 40000);
    c.due("once, from below", x.buy(0, 0, 2, 0, 0, 1), 40000);
    c.due("twice", x.buy(0, 0, 2, 0, 1, 2), 0);
    c.due("after all", x.buy(0, 0, 2, 1, 1, 1), 0);
    c.due("k 0", x.buy(0, 0, 2, 0, 1, 0), Check.OUTSIDE);
    c.due("k 4", x.buy(0, 0, 2, 0, 1, 4), Check.OUTSIDE);
    c.due("y 2", x.buy(0, 0, 2, 2, 1, 1), Check.OUTSIDE);
    c.due("rung 2", x.buy(0, 0, 2, 0, 2, 0), Check.UNKNOWN);
    c.withHouse(x, 1, "rung 0;rung 500;down 1;first 10;");
    c.due("below 0", x.buy(0, 1, 2, 0, 1, 1), -500000);
  }

  private static void keepRung() {
    RungHouse x = c.withHouse(new RungHouse(), 0, "rung 100;rung 50;rung 10;down 1;first 5;");
    c.withSort(x, "scrape 30 100;scrape 90 50;pains 20 30;");
    for (int r = 0; r < 3; r++) {
      c.withHouse(x, 1, "rung 100" + kept(r, 0) + "rung 50" + kept(r, 1) + "rung 10" + kept(r, 2) + "down 1;first 5;");
      int due = x.cost(0, 0, 8, 0, r) - x.cost(0, 1, 8, 0, r);
      c.due("keep " + r, x.keepRung(0, 0, 8, r), due);
      c.due("keep " + r + " is worth something", due > 0 ? 1 : 0, r > 0 ? 1 : 0);
      c.due("is kept " + r, x.keepRung(0, 1, 8, r), 0);
    }
    c.due("nothing is kept by asking", x.told(0, 5), 0);
    c.due("rung 3", x.keepRung(0, 0, 8, 3), Check.UNKNOWN);
    c.due("sort 1", x.keepRung(1, 0, 8, 0), Check.UNKNOWN);
    c.due("Y 1", x.keepRung(0, 0, 1, 1), 0);
    c.due("Y 31", x.keepRung(0, 0, 31, 0), Check.OUTSIDE);
    c.due("Y 0, kept", x.keepRung(0, 1, 0, 2), Check.OUTSIDE);
  }

  private static String kept(int r, int at) { return r == at ? " kept;" : ";"; }

  private static void leave() {
    RungHouse x = example();
    c.due("no other house", x.leave(0, 0, 1, 0), Check.UNKNOWN);
    c.withHouse(x, 1, "rung 200;rung 100;rung 1;enter 1;");
    c.due("to 0 for 200", x.leave(0, 0, 1, 0), 0);
    c.due("to 1 for 100", x.leave(0, 0, 1, 1), 0);
    c.due("from 200", x.leave(0, 1, 1, 0), 1);
    c.due("from 100 to 112", x.leave(0, 1, 1, 1), 0);
    c.due("from the top", x.leave(0, 1, 1, 2), 0);
    c.due("rung 2", x.leave(0, 0, 1, 2), Check.UNKNOWN);
    c.due("rung 3", x.leave(0, 1, 1, 3), Check.UNKNOWN);
    c.due("house 2", x.leave(0, 2, 1, 0), Check.UNKNOWN);
    c.due("house -1", x.leave(0, -1, 1, 0), Check.UNKNOWN);
    c.due("Y", x.leave(0, 0, 31, 0), Check.OUTSIDE);
    c.withHouse(x, 1, HOUSE + "enter 1;");
    c.due("alike", x.leave(0, 0, 1, 1), 0);
    c.withHouse(x, 1, "rung 100;rung 59;down 1;first 10;");
    c.due("begins at 0 there", x.leave(0, 0, 1, 1), 0);
    c.withHouse(x, 1, "rung 100;rung 59;down 1;first 10;enter 1;");
    c.due("a coin less", x.leave(0, 0, 1, 1), 1);
  }

  private static void pad() {
    RungHouse x = example();
    c.due("unseen", x.pad(0, 0, 2, 0, 0, 0, 30, 50, 0), 50000);
    c.due("seen", x.pad(0, 0, 2, 0, 0, 0, 30, 50, 100), -20000);
    c.due("the mean", x.pad(0, 0, 2, 0, 0, 0, 30, 50, 10), 43000);
    c.due("last month", x.pad(0, 0, 2, 0, 11, 3, 30, 50, 100), -20000);
    c.due("below the first sum", x.pad(0, 0, 2, 0, 0, 0, 5, 50, 100), 0);
    c.due("a coin in the last year", x.pad(0, 0, 1, 0, 0, 0, 1, 50, 100), 0);
    c.withHouse(x, 1, "rung 100;rung 60;rung 33;down 1;first 10;");
    int once = x.in(1, 1, 4, 0, 2, 1, 1, false);
    c.due("no pains", x.pad(1, 1, 4, 2, 0, 0, 30, 50, 100), -(20000 + x.in(1, 1, 4, 0, 2, 1, 3, false) - once));
    c.due("pains would tell", once == x.in(1, 1, 4, 0, 2, 1, 1, true) ? 0 : 1, 1);
    // With three rungs what it costs more is no round sum.
    c.withHouse(x, 1, "rung 100;rung 60;rung 33;down 1;");
    int more = 7000 + x.in(0, 1, 3, 0, 2, 6, 3, false) - x.in(0, 1, 3, 0, 2, 6, 1, false);
    c.due("cut", x.pad(0, 1, 3, 2, 5, 0, 7, 1, 77), (23 * 1000 - 77 * more) / 100);
    c.due("m 12", x.pad(0, 0, 2, 0, 12, 0, 30, 50, 0), Check.OUTSIDE);
    c.due("m -1", x.pad(0, 0, 2, 0, -1, 0, 30, 50, 0), Check.OUTSIDE);
    c.due("k 4", x.pad(0, 0, 2, 0, 0, 4, 30, 50, 0), Check.OUTSIDE);
    c.due("S 0", x.pad(0, 0, 2, 0, 0, 0, 0, 50, 0), Check.OUTSIDE);
    c.due("S 1000", x.pad(0, 0, 2, 0, 0, 0, 1000, 50, 0), Check.OUTSIDE);
    c.due("Z -1", x.pad(0, 0, 2, 0, 0, 0, 30, -1, 0), Check.OUTSIDE);
    c.due("Z 1000", x.pad(0, 0, 2, 0, 0, 0, 30, 1000, 0), Check.OUTSIDE);
    c.due("Z 999", x.pad(0, 0, 2, 0, 0, 0, 30, 999, 0), 999000);
    c.due("Z 0", x.pad(0, 0, 2, 0, 0, 0, 30, 0, 0), 0);
    c.due("v -1", x.pad(0, 0, 2, 0, 0, 0, 30, 50, -1), Check.OUTSIDE);
    c.due("v 101", x.pad(0, 0, 2, 0, 0, 0, 30, 50, 101), Check.OUTSIDE);
    c.due("Y 0", x.pad(0, 0, 0, 0, 0, 0, 30, 50, 0), Check.OUTSIDE);
    c.due("rung", x.pad(0, 0, 0, 2, 12, 4, 0, -1, 101), Check.UNKNOWN);
  }

  /**
   * One rung of 100; each month a scrape of 30 or 31. First 0: no pains, the house bears 366000 of its 100000. First
   * 10: pains, it bears 123000. First 20: pains, it bears 63000. So the first sum alone tells, and D and U stay 1.
   */
  private static void setting() {
    RungHouse x = c.withHouse(new RungHouse(), 0, "rung 100;up 3;down 4;first 7;");
    c.due("no sorts", x.setting(0, 1, 9999999), 110);
    c.withSort(x, "scrape 30 500;scrape 31 500;pains 1 50;");
    c.due("any", x.setting(0, 1, -9999999), 111);
    c.due("a little less than nothing", x.setting(0, 12, -30000), 111);
    c.due("not below 0", x.setting(0, 12, 0), 112);
    c.due("too much", x.setting(0, 1, 100000), Check.NONE);
    c.due("the house is as it was", x.told(0, 1) * 100 + x.told(0, 2) * 10 + x.told(0, 3), 347);
    c.due("so are its costs", x.cost(0, 0, 1, 0, 0), 100000 + 42000 + 1000);
    c.withHouse(x, 1, "rung 100;first 20;");
    int even = x.even(0, 1, -1, 1, 10, 2);
    c.due("just enough", x.setting(0, 1, even), 112);
    c.due("one above it", x.setting(0, 1, even + 1), Check.NONE);
    c.due("Y 0", x.setting(0, 0, 0), Check.OUTSIDE);
    c.due("Y 13", x.setting(0, 13, 0), Check.OUTSIDE);
    c.due("least", x.setting(0, 1, -10000000), Check.OUTSIDE);
    c.due("most", x.setting(0, 1, 10000000), Check.OUTSIDE);
    c.due("house 2", x.setting(2, 0, 0), Check.UNKNOWN);
  }

  /** The setting found call by call: each is told as a house of its own. */
  private static void settingByHand() {
    String rungs = "rung 120;rung 90;rung 70 kept;rung 55;rung 40;enter 1;";
    String[] sorts = {"scrape 15 60;scrape 60 30;pains 6 40;", "scrape 25 90;pains 4 25;"};
    int[] leasts = {-9999999, 30000, 40000, 45000, 50000};
    for (int years : new int[] {1, 3, 12}) {
      int[] most = {-1, -1, -1, -1, -1};
      int[] due = {-1, -1, -1, -1, -1};
      for (int d = 1; d <= 3; d++) {
        for (int u = 1; u <= 4; u++) {
          for (int f = 0; f <= 2; f++) {
            RungHouse x = c.withHouse(new RungHouse(), 1, rungs + "up " + d + ";down " + u + ";first " + 10 * f + ";");
            int pained = 0;
            int even = Integer.MAX_VALUE;
            for (int s = 0; s < 2; s++) {
              c.withSort(x, sorts[s]);
              for (int r = 0; r < 5; r++) pained += x.takes(s, 1, years, 0, r);
              even = Math.min(even, x.even(s, 1, -1, years, 10, 2));
            }
            for (int i = 0; i < leasts.length; i++) {
              if (even >= leasts[i] && pained > most[i]) { most[i] = pained; due[i] = 100 * d + 10 * u + f; }
            }
          }
        }
      }
      RungHouse x = c.withHouse(new RungHouse(), 0, rungs + "up 9;down 9;first 99;");
      for (String sort : sorts) c.withSort(x, sort);
      for (int i = 0; i < leasts.length; i++) c.due("setting of " + years + " years, " + leasts[i], x.setting(0, years, leasts[i]), due[i]);
    }
  }

  /** Where the upper rungs are the dear ones, the more up the better for the house; but D ends at 3. */
  private static void settingEnds() {
    StringBuilder rungs = new StringBuilder();
    for (int r = 0; r < 10; r++) rungs.append("rung ").append(100 * r).append(';');
    RungHouse x = c.withHouse(new RungHouse(), 0, rungs + "up 4;down 1;");
    c.withHouse(x, 1, rungs + "up 3;down 1;first 20;");
    c.withSort(x, "scrape 100 100;");
    c.due("D 4 would do", x.even(0, 0, -1, 2, 10, 2), 264548);
    c.due("but is not tried", x.setting(0, 2, 264548), Check.NONE);
    c.due("D 3 is", x.setting(0, 2, x.even(0, 1, -1, 2, 10, 2)), 312);
  }

  /** What was reckoned for a house that has been told anew must not linger. */
  private static void retold() {
    RungHouse x = example();
    c.due("ahead", x.cost(0, 0, 2, 0, 0), 207800);
    c.due("pains ahead", x.takes(1, 0, 2, 0, 0), 1);
    c.withHouse(x, 0, "rung 7;first 0;");
    c.due("behind", x.cost(0, 0, 2, 0, 0), 14000);
    c.due("all thirty years", x.cost(0, 0, 30, 0, 0), 210000);
    c.due("all thirty years with pains", x.takes(1, 0, 30, 0, 0), 0);
    c.due("pains behind", x.takes(1, 0, 2, 0, 0), 0);
    Check.tell(x, "rung 9;rung 1;enter 9;");
    c.due("a fault", x.house(0), -15);
    c.due("as it was", x.cost(0, 0, 2, 0, 0), 14000);
    c.due("its rungs, too", x.cost(0, 0, 2, 0, 1), Check.UNKNOWN);
  }
}
