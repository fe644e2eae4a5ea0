/** Promises 18 to 23 and 29 to 33: the long run, draws and images, on examples that are worked out by hand. */
public final class LongRunTest {
  private static final Check c = new Check();
  private static final String HOUSE = "rung 100;rung 60;down 1;first 10;";

  public static void main(String[] args) {
    odds();
    standing();
    even();
    years();
    think();
    seed();
    lives();
    images();
    c.close("LongRunTest");
  }

  /** Sort 0: 100 of 1000 a month. Sort 1: a scrape each month. Sort 2: as 0, with pains. Rules: all, none, by month. */
  private static RungHouse example() {
    RungHouse x = c.withHouse(new RungHouse(), 0, HOUSE);
    c.withSort(x, "scrape 30 100;");
    c.withSort(x, "scrape 20 500;scrape 30 500;");
    c.withSort(x, "scrape 30 100;pains 1 50;");
    c.withRule(x, "");
    c.withRule(x, "bar 31;");
    c.withRule(x, "bar 31 months 0 10;");
    return x;
  }

  private static void odds() {
    RungHouse x = example();
    // 1000000, then a tenth less each month, cut: .. 531441, 478297, 430468, 387422, 348680, 313812, 282431
    c.due("all, none asked", x.odds(0, 0, 0, 1, 0, 0), 282431);
    int sum = 0;
    for (int k = 0; k < 4; k++) sum += x.odds(0, 0, 0, 1, 0, k);
    c.due("all together", sum, 1000000);
    c.due("none", x.odds(0, 0, 1, 1, 1, 0), 1000000);
    c.due("none, 1", x.odds(0, 0, 1, 1, 1, 1), 0);
    c.due("by month, 0", x.odds(0, 0, 2, 1, 1, 0), 900000);
    c.due("by month, 1", x.odds(0, 0, 2, 1, 1, 1), 100000);
    c.due("every month, 3", x.odds(1, 0, 0, 1, 0, 3), 1000000);
    c.due("every month, 2", x.odds(1, 0, 0, 1, 0, 2), 0);
    // The best way of the last year asks always; in the year ahead of it in month 0 alone, and then always.
    c.due("best, a year", x.odds(0, 0, -1, 1, 0, 0), 282431);
    c.due("best, two years", x.odds(0, 0, -1, 2, 0, 0), 900000);
    // With pains it is 50 of 1000: 950000, 902500, 857375, 814507, .. 568803, 540363
    c.due("best, with pains", x.odds(2, 0, -1, 1, 0, 0), 540363);
    c.due("a rule takes no pains", x.odds(2, 0, 0, 1, 0, 0), 282431);
    c.due("k 4", x.odds(0, 0, 0, 1, 0, 4), Check.OUTSIDE);
    c.due("k -1", x.odds(0, 0, 0, 1, 0, -1), Check.OUTSIDE);
    c.due("Y 0", x.odds(0, 0, 0, 0, 0, 0), Check.OUTSIDE);
    c.due("Y 31", x.odds(0, 0, 0, 31, 0, 0), Check.OUTSIDE);
    c.due("rule 3", x.odds(0, 0, 3, 0, 0, 0), Check.UNKNOWN);
    c.due("rule -2", x.odds(0, 0, -2, 1, 0, 0), Check.UNKNOWN);
    c.due("rung 2", x.odds(0, 0, 0, 1, 2, 0), Check.UNKNOWN);
    c.due("sort 3", x.odds(3, 0, 0, 1, 0, 0), Check.UNKNOWN);
  }

  private static void standing() {
    RungHouse x = example();
    c.due("enter", x.standing(0, 0, 0, 1, 0, 0), 1000000);
    c.due("not there", x.standing(0, 0, 0, 1, 0, 1), 0);
    c.due("year 1", x.standing(0, 0, 0, 1, 1, 1), 282431);
    c.due("year 1, rung 0", x.standing(0, 0, 0, 1, 1, 0), 717569);
    // 282431 and 717569 of a MILLION each times 282431, both cut: 79767 and 202663
    c.due("year 2", x.standing(0, 0, 0, 1, 2, 1), 79767 + 202663);
    c.due("year 2, with what is lost", x.standing(0, 0, 0, 1, 2, 0), 1000000 - 79767 - 202663);
    c.due("none asks", x.standing(0, 0, 1, 1, 30, 1), 1000000);
    c.due("all ask", x.standing(1, 0, 0, 1, 30, 0), 1000000);
    c.due("best, two years", x.standing(0, 0, -1, 2, 1, 1), 900000);
    c.due("t 31", x.standing(0, 0, 0, 1, 31, 0), Check.OUTSIDE);
    c.due("t -1", x.standing(0, 0, 0, 1, -1, 0), Check.OUTSIDE);
    c.due("Y 0 by a rule", x.standing(0, 0, 0, 0, 0, 0), Check.OUTSIDE);
    c.due("Y 31", x.standing(0, 0, -1, 31, 0, 0), Check.OUTSIDE);
    c.due("rule 3", x.standing(0, 0, 3, 31, 0, 0), Check.UNKNOWN);
    c.due("rung 2", x.standing(0, 0, 0, 1, 0, 2), Check.UNKNOWN);
    c.due("house 1", x.standing(0, 1, 0, 1, 0, 0), Check.UNKNOWN);
    c.withHouse(x, 1, "up 2;down 2;enter 1;rung 5;rung 4;rung 3;rung 2 kept;");
    c.due("up to the top", x.standing(0, 1, 1, 1, 1, 3), 1000000);
    c.due("down to 0", x.standing(1, 1, 0, 1, 1, 0), 1000000);
    // Down to 0, which nobody leaves who asks thrice.
    c.due("stays", x.standing(1, 1, 0, 1, 2, 0), 1000000);
  }

  private static void even() {
    RungHouse x = example();
    c.due("paid on 0", x.even(1, 0, 0, 1, 0, 0), 100000);
    // Each month 500 times 10 and 500 times 20
    c.due("asked for", x.even(1, 0, 0, 1, 0, 1), 12 * 15000);
    c.due("even", x.even(1, 0, 0, 1, 0, 2), 100000 - 180000);
    c.due("paid on 1", x.even(0, 0, 1, 1, 1, 0), 60000);
    c.due("nothing asked for", x.even(0, 0, 1, 1, 1, 1), 0);
    c.due("even on 1", x.even(0, 0, 1, 1, 1, 2), 60000);
    // 717569 times 100 and 282431 times 60, both / 1000: 71756 and 16945
    c.due("paid on both", x.even(0, 0, 0, 1, 1, 0), 71756 + 16945);
    // The last month alone: 2000 on each rung; of 100000 and 900000 of a MILLION in year 1: 200 and 1800
    c.due("one month", x.even(0, 0, 2, 1, 0, 1), 2000);
    c.due("one month on both", x.even(0, 0, 2, 1, 1, 1), 2000);
    // Two months: 2000, then 1800 and 200 of those who have not asked in the first, and have
    c.withRule(x, "bar 31 months 0 9;");
    c.due("two months", x.even(0, 0, 3, 1, 0, 1), 4000);
    c.withHouse(x, 1, "rung 1;rung 1;down 1;first 40;");
    c.due("below the first sum", x.even(1, 1, 0, 1, 0, 1), 0);
    c.due("what 3", x.even(0, 0, 0, 1, 0, 3), Check.OUTSIDE);
    c.due("what -1", x.even(0, 0, 0, 1, 0, -1), Check.OUTSIDE);
    c.due("t 31", x.even(0, 0, 0, 1, 31, 0), Check.OUTSIDE);
    c.due("Y 0", x.even(0, 0, -1, 0, 0, 0), Check.OUTSIDE);
    c.due("rule 4", x.even(0, 0, 4, 1, 0, 3), Check.UNKNOWN);
    c.due("house 2", x.even(0, 2, 0, 1, 0, 0), Check.UNKNOWN);
    c.due("sort -1", x.even(-1, 0, 0, 1, 0, 0), Check.UNKNOWN);
  }

  private static void years() {
    RungHouse x = new RungHouse();
    c.due("r 10", x.year(10, 0), Check.OUTSIDE);
    c.due("r -1", x.year(-1, 0), Check.OUTSIDE);
    c.due("k 4", x.year(0, 4), Check.OUTSIDE);
    c.due("k -1", x.year(0, -1), Check.OUTSIDE);
    for (int i = 1; i <= 8; i++) c.due("year " + i, x.year(9, 3), i);
    c.due("ninth", x.year(0, 0), Check.FULL);
    c.due("OUTSIDE first", x.year(10, 0), Check.OUTSIDE);
    c.due("count", x.count(3), 8);
    x.scrape(0, 1, true);
    x.scrape(1, 1, true);
    c.due("clear", x.clear(), 10);
    c.due("clear again", x.clear(), 0);
    c.due("no years", x.count(3), 0);
    c.due("no life", x.count(2), 0);
    c.due("anew", x.year(0, 0), 1);
  }

  private static void think() {
    RungHouse x = example();
    c.due("nothing known", x.think(0, 0, 1), 33);
    x.year(0, 3);
    // In the last year 1 asks each month, 0 thrice with 110868 of a MILLION, 2 by pains with 19564: 11086, 100000, 1956
    c.due("asked thrice, 0", x.think(0, 0, 1), 9);
    c.due("asked thrice, 1", x.think(1, 0, 1), 88);
    c.due("asked thrice, 2", x.think(2, 0, 1), 1);
    x.year(1, 0);
    c.due("and not at all, 1", x.think(1, 0, 1), 0);
    c.due("Y 0", x.think(0, 0, 0), Check.OUTSIDE);
    c.due("Y 31", x.think(0, 0, 31), Check.OUTSIDE);
    c.due("sort 3", x.think(3, 0, 0), Check.UNKNOWN);
    c.due("house 1", x.think(0, 1, 1), Check.UNKNOWN);
    x.year(2, 0);
    c.due("no such rung", x.think(0, 0, 1), Check.NOT);
    c.due("OUTSIDE first", x.think(0, 0, 0), Check.OUTSIDE);
    x.clear();
    x.year(2, 0);
    c.due("no such rung at first", x.think(0, 0, 1), Check.NOT);
    c.withHouse(x, 1, "rung 5;rung 5;rung 5;");
    // Without a first sum 2 has nothing to spare by pains; 0 and 2 alike ask for nothing with 282431
    c.due("the other house has it", x.think(0, 1, 1), 50);
    c.due("who always asks", x.think(1, 1, 1), 0);

    RungHouse z = c.withHouse(new RungHouse(), 0, HOUSE);
    c.withSort(z, "scrape 400 9;");
    c.withSort(z, "scrape 401 9;");
    // After each year the weights are made great again: else eight rare years would leave nothing of both.
    for (int i = 0; i < 8; i++) z.year(0, 3);
    c.due("eight rare years", z.think(0, 0, 1), 50);
    z.clear();
    c.withSort(z, "scrape 5 9;");
    z.year(0, 3);
    c.due("who never asks", z.think(2, 0, 1), 0);
    z.clear();
    RungHouse w = c.withHouse(new RungHouse(), 0, HOUSE);
    c.withSort(w, "scrape 5 9;");
    w.year(0, 1);
    c.due("nobody it can be", w.think(0, 0, 1), 0);
  }

  private static void seed() {
    RungHouse x = new RungHouse();
    c.due("at first", x.seed(7), 0);
    c.due("below", x.seed(-1), Check.OUTSIDE);
    c.due("least", x.seed(Integer.MIN_VALUE), Check.OUTSIDE);
    c.due("most", x.seed(Integer.MAX_VALUE), 7);
    c.due("was", x.seed(0), Integer.MAX_VALUE);
  }

  private static void lives() {
    RungHouse x = example();
    // From 0 each year, a scrape each month of which one bears 10
    c.due("all asked", x.lives(1, 0, 0, 3), 3 * (100 + 120));
    c.withHouse(x, 1, HOUSE + "enter 1;");
    c.due("from 1 down", x.lives(1, 1, 0, 3), 60 + 200 + 360);
    // Out of 0 come 12345 (a DRAW of 0: the first scrape) and 1406932606 (a DRAW of 468)
    x.seed(0);
    c.due("a year", x.lives(0, 0, 1, 1), 100 + scrapesDrawn(0, 100) * 30);
    c.due("the seed went on", x.seed(0), seedAfter(0, 12));
    c.due("two years up", x.lives(0, 0, 1, 2), 160 + (scrapesDrawn(0, 100) + scrapesDrawn(seedAfter(0, 12), 100)) * 30);
    c.due("the seed went on twice", x.seed(5), seedAfter(0, 24));
    c.due("n 0", x.lives(0, 0, 0, 0), Check.OUTSIDE);
    c.due("n 31", x.lives(0, 0, 0, 31), Check.OUTSIDE);
    c.due("rule NONE", x.lives(0, 0, -1, 1), Check.UNKNOWN);
    c.due("rule 3", x.lives(0, 0, 3, 0), Check.UNKNOWN);
    c.due("sort 3", x.lives(3, 0, 0, 1), Check.UNKNOWN);
    c.due("house 2", x.lives(0, 2, 0, 1), Check.UNKNOWN);
    c.due("the seed stayed", x.seed(0), 5);
    c.withRule(x, "bar 30;");
    c.due("the bar itself is asked for", x.lives(0, 0, 3, 1), 100 + scrapesDrawn(0, 100) * 10);
    x.seed(0);
    // A DRAW that is as much as all Q so far brings the next scrape.
    c.withSort(x, "scrape 1 468;scrape 500 1;");
    c.due("by the second draw", x.lives(3, 0, 1, 1), 100 + drawn(new int[] {468, 1}, new int[] {1, 10}));
  }

  private static int step(int seed) { return (int) ((seed * 1103515245L + 12345) % (1L << 31)); }
  private static int seedAfter(int seed, int draws) {
    for (int i = 0; i < draws; i++) seed = step(seed);
    return seed;
  }
  private static int scrapesDrawn(int seed, int q) {
    int n = 0;
    for (int m = 0; m < 12; m++) {
      seed = step(seed);
      if (seed / 65536 % 1000 < q) n++;
    }
    return n;
  }
  private static int drawn(int[] q, int[] borne) {
    int seed = 0, all = 0;
    for (int m = 0; m < 12; m++) {
      seed = step(seed);
      int draw = seed / 65536 % 1000;
      all += draw < q[0] ? borne[0] : draw < q[0] + q[1] ? borne[1] : 0;
    }
    return all;
  }

  private static void images() {
    RungHouse x = example();
    c.due("not kept", x.goBack(0), Check.NOT);
    c.due("no image 2", x.goBack(2), Check.UNKNOWN);
    c.due("no image -1", x.goBack(-1), Check.UNKNOWN);
    c.due("keep 2", x.keep(2), Check.UNKNOWN);
    c.due("keep -1", x.keep(-1), Check.UNKNOWN);
    x.scrape(0, 29, false);
    x.year(0, 3);
    x.seed(9);
    c.due("keep 0", x.keep(0), 1);
    x.clear();
    x.scrape(0, 29, true);
    x.scrape(5, 29, true);
    x.year(0, 0);
    x.year(0, 0);
    x.seed(11);
    c.due("keep 1", x.keep(1), 1);
    c.due("back to 0", x.goBack(0), 1);
    c.due("its life", x.count(2), 1);
    c.due("bore what one asks for", x.judge(0, 0, 2, 0, 0), 0);
    c.due("its years", x.count(3), 1);
    c.due("its seed", x.seed(12), 9);
    x.scrape(1, 1, true);
    x.year(1, 1);
    c.due("back to 0 again", x.goBack(0), 1);
    c.due("its life again", x.count(2), 1);
    c.due("its years again", x.count(3), 1);
    c.due("its seed again", x.seed(13), 9);
    c.due("the month goes on from there", x.scrape(1, 1, true), 2);
    c.due("back to 1", x.goBack(1), 1);
    c.due("1's life", x.count(2), 2);
    c.due("asked, as one does", x.judge(0, 0, 2, 0, 0), Check.NONE);
    c.due("1's years", x.count(3), 2);
    c.due("1's seed", x.seed(1), 11);
    c.due("sorts are not of it", x.count(0), 3);
    c.due("nor rules", x.count(1), 3);
    x.goBack(0);
    // Asked thrice, as LongRunTest.think() has it; by the years of image 1 it would be 0.
    c.due("its year is what it was", x.think(1, 0, 1), 88);
    Check.tell(x, "ru");
    c.due("nor the text", x.goBack(0) * 10 + x.count(4), 12);
  }
}
