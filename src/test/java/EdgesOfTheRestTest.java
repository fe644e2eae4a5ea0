import java.math.BigInteger;

/** The document's sentences with an edge, one by one: part 4 and promises 24 to 33. */
public final class EdgesOfTheRestTest {
  private static final Edges c = new Edges();
  private static final String PART = "Part 4";

  public static void main(String[] args) {
    buyBack();
    keepIt();
    leaveIt();
    padding();
    settings();
    settingBounds();
    draws();
    images();
    buyAndKeep();
    leaveAndPad();
    setting();
    seedAndLives();
    count();
    keepAndGoBack();
    c.covers("Part 4");
    for (int n = 24; n <= 33; n++) c.covers("Promise " + n);
    c.close("EdgesOfTheRestTest");
  }

  /** The example of BestWayTest: the last year COST 112000, 72000; the two last years 207800, 167800. */
  private static RungHouse example() {
    RungHouse x = c.withHouse(new RungHouse(), 0, "rung 100;rung 60;down 1;first 10;");
    c.withHouse(x, 1, "rung 9;rung 8;rung 7;");
    c.withSort(x, "scrape 30 100;");
    c.withSort(x, "scrape 30 100;pains 1 50;");
    c.withRule(x, "");
    return c.withRule(x, "bar 31;");
  }

  /** A great scrape each month, and no first sum: all is asked for and nothing borne; k is 3 behind each year. */
  private static RungHouse alwaysAsks(String house) {
    return c.withSort(c.withHouse(new RungHouse(), 0, house), "scrape 998 500;scrape 999 500;");
  }

  // ---------------------------------------------------------------- part 4

  private static void buyBack() {
    c.says(PART, "BUY BACK: at the end of year y one with k ASKINGS may pay a sum and count k less 1: the most that is worth it: "
        + "COST (y and 1, NEXT by k) less COST (y and 1, NEXT by k less 1).");
    RungHouse x = example();
    c.due("one asking", x.buy(0, 0, 2, 0, 1, 1), 112000 - 72000);
    c.due("two askings", x.buy(0, 0, 2, 0, 1, 2), 0);
    c.due("ahead of two years", x.buy(0, 0, 3, 0, 1, 1), 207800 - 167800);
    c.due("at the end of the last year", x.buy(0, 0, 2, 1, 1, 1), 0);
    // Rungs for 100, 81, 72, 70: from rung 3 each asking is one rung.
    RungHouse z = alwaysAsks("rung 100;rung 81;rung 72;rung 70;down 1;");
    int[] due = {2000, 9000, 19000};
    for (int k = 1; k <= 3; k++) c.due("k " + k, z.buy(0, 0, 2, 0, 3, k), due[k - 1]);
    RungHouse kept = alwaysAsks("rung 100;rung 81;rung 72;rung 70 kept;down 1;");
    int[] keptDue = {0, 2000, 9000};
    for (int k = 1; k <= 3; k++) c.due("kept, k " + k, kept.buy(0, 0, 2, 0, 3, k), keptDue[k - 1]);
    RungHouse cheap = alwaysAsks("rung 0;rung 500;down 1;");
    c.due("below 0, as the lower rung is the cheaper one", cheap.buy(0, 0, 2, 0, 1, 1), -500000);
  }

  private static void keepIt() {
    c.says(PART, "KEEP: COST (0, r) as it is less what it would be, were RUNG r 'kept'.");
    // Thrice asked for on rung 3: down to 0, were it kept to 1; so a year on 0 is spared one on 1.
    RungHouse x = alwaysAsks("rung 100;rung 81;rung 72;rung 70;down 1;");
    c.due("rung 3", x.keepRung(0, 0, 2, 3), 19000);
    c.due("rung 2", x.keepRung(0, 0, 2, 2), 0);
    c.due("rung 0", x.keepRung(0, 0, 2, 0), 0);
    c.due("nothing behind one year", x.keepRung(0, 0, 1, 3), 0);
    c.due("it is not kept by that", x.told(0, 5), 0);
    c.due("nor is COST another", x.cost(0, 0, 2, 0, 3), 170000);
    // Neither another house that was told behind it, nor what was reckoned by a rule or for another sort, may linger.
    RungHouse other = alwaysAsks("rung 100;rung 81;rung 72;rung 70;down 1;");
    c.withHouse(other, 1, "rung 9;rung 8;rung 7;rung 6;");
    c.withSort(other, "scrape 1 1;");
    c.withRule(other, "bar 999;");
    c.due("another house was told", other.keepRung(0, 0, 2, 3), 19000);
    c.allowed("another house and sort", other.fixed(0, 1, 1, 2, 0, 3));
    c.due("a rule was looked at", other.keepRung(0, 0, 2, 3), 19000);
    c.due("another sort was looked at", other.keepRung(1, 0, 1, 3) + other.keepRung(0, 0, 2, 3), 19000);
    RungHouse cheap = alwaysAsks("rung 0;rung 10;rung 10;rung 10;down 1;");
    c.due("below 0, as rung 0 is the cheaper one", cheap.keepRung(0, 0, 2, 3), -10000);
  }

  private static void leaveIt() {
    c.says(PART, "LEAVE: the RUNG there is the less of r and 'enter' of the other HOUSE; one leaves, if COST (0, that) there over Y years is less.");
    RungHouse x = alwaysAsks("rung 100;rung 60;rung 50;");
    c.withHouse(x, 1, "rung 99;rung 60;rung 1;enter 1;");
    c.due("from 0 to 0: 99 of 100", x.leave(0, 0, 1, 0), 1);
    c.due("from 1 to 1: alike", x.leave(0, 0, 1, 1), 0);
    c.due("from 2 to 1, not to 2", x.leave(0, 0, 1, 2), 0);
    c.due("back from 0 to 0", x.leave(0, 1, 1, 0), 0);
    c.due("back from 1 to 0", x.leave(0, 1, 1, 1), 0);
    c.withHouse(x, 1, "rung 101;rung 59;rung 1;enter 1;");
    c.due("one coin more", x.leave(0, 0, 1, 0), 0);
    c.due("one coin less", x.leave(0, 0, 1, 1), 1);
    c.withHouse(x, 1, "rung 101;rung 59;rung 49;enter 2;");
    c.due("'enter' 2 from 2", x.leave(0, 0, 1, 2), 1);
    c.due("'enter' 2 from 1", x.leave(0, 0, 1, 1), 1);
    c.due("'enter' 2 from 0", x.leave(0, 0, 1, 0), 0);
    // Over two years the second one, on rung 0 of both, tells: 59 and 101 to 60 and 100.
    c.due("over two years from 1: alike", x.leave(0, 0, 2, 1), 0);
    c.withHouse(x, 1, "rung 100;rung 59;enter 1;");
    c.due("over two years: less", x.leave(0, 0, 2, 1), 1);
    // What one bears there tells as well, and of the SORT that is meant: 5 of 10 coins a month, or 99.
    RungHouse z = c.withHouse(new RungHouse(), 0, "rung 100;first 5;");
    c.withHouse(z, 1, "rung 0;first 99;");
    c.withSort(z, "scrape 10 500;");
    c.withSort(z, "scrape 99 500;");
    c.due("130 to 60", z.leave(0, 0, 1, 0), 1);
    c.due("60 to 130", z.leave(0, 1, 1, 0), 0);
    c.due("130 to 594", z.leave(1, 0, 1, 0), 0);
    c.due("594 to 130", z.leave(1, 1, 1, 0), 1);
    RungHouse w = c.withHouse(new RungHouse(), 0, "rung 20;first 50;");
    c.withHouse(w, 1, "rung 30;first 99;");
    c.withSort(w, "scrape 3 500;");
    c.withSort(w, "scrape 99 500;");
    c.due("38 to 48", w.leave(0, 0, 1, 0), 0);
    c.due("48 to 38", w.leave(0, 1, 1, 0), 1);
    c.due("320 to 624", w.leave(1, 0, 1, 0), 0);
    c.due("624 to 320", w.leave(1, 1, 1, 0), 1);
  }

  private static void padding() {
    c.says(PART, "PAD: asking for a scrape of S for Z coins more, seen with v of a hundred (then one bears S and counts 3 ASKINGS): what one gains by it beside "
        + "asking honestly in year 0, RUNG r, MONTH m, k ASKINGS (no pains; may be below 0): the mean: ((100 less v) times (Z times 1000) less v times "
        + "(what more it costs then)) / 100 (cut), where it costs then S times 1000 and IN (0, r, m and 1, 3) less what asking honestly does.");
    RungHouse x = example();
    c.due("never seen", x.pad(0, 0, 2, 0, 0, 0, 30, 50, 0), 50000);
    c.due("always seen", x.pad(0, 0, 2, 0, 0, 0, 30, 50, 100), -20000);
    c.due("the mean", x.pad(0, 0, 2, 0, 0, 0, 30, 50, 10), (90 * 50000 - 10 * 20000) / 100);
    c.due("S below F costs nothing more", x.pad(0, 0, 1, 0, 0, 0, 9, 50, 100), 0);
    c.due("S one above F", x.pad(0, 0, 1, 0, 0, 0, 11, 50, 100), -1000);
    // Rungs for 100, 81, 72, 70, one down: in MONTH 11 of year 0 from rung 3 honest k and 1 askings, or 3.
    RungHouse z = alwaysAsks("rung 100;rung 81;rung 72;rung 70;down 1;");
    int[] later = {28000, 19000, 0, 0};
    for (int k = 0; k < 4; k++) c.due("counts 3, k " + k, z.pad(0, 0, 2, 3, 11, k, 5, 0, 100), -5000 - later[k]);
    // IN (0, 2, 11, 1) is 1 thousandth, IN (0, 2, 11, 3) is 1000: 1999 more.
    RungHouse t = c.withSort(c.withHouse(new RungHouse(), 0, "rung 1;rung 0;rung 0;down 1;"), "scrape 1 1;");
    c.due("cut above 0", t.pad(0, 0, 2, 2, 10, 0, 1, 1, 1), 970);
    c.due("cut below 0", t.pad(0, 0, 2, 2, 10, 0, 1, 0, 1), -19);
    // With three rungs what is behind MONTH 1 is another thing with pains.
    c.withHouse(x, 1, "rung 100;rung 60;rung 33;down 1;first 10;");
    int honest = x.in(1, 1, 4, 0, 2, 1, 1, false), seen = x.in(1, 1, 4, 0, 2, 1, 3, false);
    c.due("no pains", x.pad(1, 1, 4, 2, 0, 0, 30, 50, 100), -20000 - seen + honest);
    int pained = x.in(1, 1, 4, 0, 2, 1, 3, true) - x.in(1, 1, 4, 0, 2, 1, 1, true);
    c.due("pains would tell", pained == seen - honest ? 1 : 0, 0);
    x.in(1, 1, 4, 3, 0, 0, 0, true);
    c.due("though another year was looked at", x.pad(1, 1, 4, 2, 0, 0, 30, 50, 100), -20000 - seen + honest);
  }

  private static final String SENTENCE_OF_SETTING = "THE SETTING: of D 1 to 3, U 1 to 4, F 0, 10, 20 (in place of those of a HOUSE; D first, then U, then F rising) "
      + "that by which the most SORTS take pains on the most RUNGS in year 0 of Y years (RUNGS and SORTS counted), and EVEN of no SORT in year 10 is below "
      + "a told least; of like ones the first; told as 100 times D, 10 times U, and F / 10; NONE.";

  /** A house, a sort, Y and a least EVEN for each of the 36, and for none. */
  private static final String[] SETTINGS = {
      "-1|rung 7;enter 0;|scrape 5 5;scrape 353 58;pains 8 47;|4|0",
      "110|rung 88;enter 0;|scrape 5 9;scrape 382 7;pains 6 51;|3|0",
      "111|rung 52;enter 0;|scrape 8 235;scrape 65 6;pains 3 48;|3|0",
      "112|rung 9;enter 0;|scrape 25 51;scrape 73 2;pains 13 72;|3|0",
      "120|rung 79;rung 25;rung 9;enter 2;|scrape 26 65;scrape 265 29;pains 5 85;|2|0",
      "121|rung 50;rung 26;rung 6;enter 2;|scrape 59 81;scrape 75 65;pains 11 76;|4|0",
      "122|rung 53;rung 3;rung 5;enter 1;|scrape 7 150;scrape 76 84;pains 3 75;|1|0",
      "130|rung 108;rung 67;rung 36;rung 8;enter 1;|scrape 14 68;scrape 215 25;pains 2 53;|4|0",
      "131|rung 64;rung 24;rung 19;rung 0;enter 1;|scrape 31 7;scrape 86 65;pains 7 57;|2|0",
      "132|rung 9;rung 16;rung 0;rung 0;enter 1;|scrape 38 30;scrape 225 3;pains 6 86;|1|0",
      "140|rung 56;rung 0;rung 0;rung 0;rung 0;enter 2;|scrape 32 98;scrape 400 1;pains 19 70;|2|0",
      "141|rung 53;rung 41;rung 0;rung 0;rung 0;enter 1;|scrape 19 20;scrape 71 97;pains 4 66;|4|0",
      "142|rung 8;rung 0;rung 0;rung 0;rung 0;enter 4;|scrape 21 66;scrape 247 3;pains 7 75;|2|0",
      "210|rung 140;rung 147;rung 88;enter 2;|scrape 25 112;scrape 101 24;pains 13 41;|2|0",
      "211|rung 0;rung 21;rung 97;enter 0;|scrape 42 74;scrape 194 3;pains 5 85;|3|0",
      "212|rung 7;rung 0;rung 66;enter 0;|scrape 48 93;scrape 155 25;pains 13 52;|1|0",
      "220|rung 131;rung 115 kept;rung 84;rung 67;rung 8;enter 4;|scrape 29 4;scrape 257 23;pains 21 82;|4|-46363",
      "221|rung 118;rung 91;rung 34;enter 1;|scrape 5 241;scrape 254 24;pains 28 75;|2|0",
      "222|rung 79;rung 89;rung 71;enter 1;|scrape 10 5;scrape 112 40;pains 7 53;|4|0",
      "230|rung 165;rung 161;rung 114;rung 58;rung 0;enter 4;|scrape 6 2;scrape 142 36;pains 11 80;|2|0",
      "231|rung 84;rung 89;rung 43;rung 3;rung 0;enter 3;|scrape 50 83;scrape 90 7;pains 16 57;|2|0",
      "232|rung 130;rung 80;rung 88;rung 83;enter 0;|scrape 13 148;scrape 252 96;pains 22 62;|1|0",
      "240|rung 195;rung 171;rung 127;rung 107;rung 77;rung 25;enter 0;|scrape 40 2;scrape 375 26;pains 19 58;|4|5092",
      "241|rung 85;rung 43;rung 0;rung 0;rung 0;rung 2;enter 4;|scrape 8 44;scrape 225 33;pains 11 35;|2|-9999999",
      "242|rung 32;rung 3;rung 0;rung 0;rung 0;enter 3;|scrape 6 5;scrape 132 70;pains 19 58;|2|-9999999",
      "310|rung 38;rung 33;rung 38;rung 0;enter 0;|scrape 42 7;scrape 212 51;pains 12 77;|2|-27662",
      "311|rung 0 kept;rung 0;rung 42;rung 86;enter 3;|scrape 14 100;scrape 368 5;pains 9 62;|2|0",
      "312|rung 5;rung 56;rung 138;rung 128;enter 2;|scrape 29 6;scrape 73 90;pains 18 39;|3|0",
      "320|rung 150;rung 91;rung 49;rung 7;rung 0;rung 0 kept;enter 5;|scrape 52 1;scrape 385 53;pains 14 18;|4|-9999999",
      "321|rung 180;rung 133;rung 141;rung 100;rung 70;enter 1;|scrape 6 131;scrape 175 48;pains 21 46;|2|0",
      "322|rung 117;rung 81;rung 89;rung 55;enter 2;|scrape 44 75;scrape 345 11;pains 12 27;|2|0",
      "330|rung 163;rung 162;rung 117;rung 61 kept;rung 71;rung 15;enter 1;|scrape 15 15;scrape 287 34;pains 27 63;|3|-45187",
      "331|rung 157;rung 128;rung 125;rung 78;enter 0;|scrape 11 19;scrape 239 46;pains 30 77;|2|0",
      "332|rung 113;rung 54;rung 57;rung 25;enter 2;|scrape 6 191;scrape 133 21;pains 25 66;|2|0",
      "340|rung 141 kept;rung 136;rung 78;rung 25 kept;rung 1;rung 0;rung 0;enter 6;|scrape 13 41;scrape 72 48;pains 26 58;|2|0",
      "341|rung 128;rung 68;rung 69;rung 76;rung 36;enter 1;|scrape 35 4;scrape 255 8;pains 12 85;|3|0",
      "342|rung 7;rung 0;rung 0;rung 8;rung 13;enter 0;|scrape 32 285;scrape 311 4;pains 17 79;|2|0"
  };

  private static void settings() {
    c.says(PART, SENTENCE_OF_SETTING);
    for (String row : SETTINGS) {
      String[] parts = row.split("[|]");
      int due = Integer.parseInt(parts[0]), years = Integer.parseInt(parts[3]), least = Integer.parseInt(parts[4]);
      RungHouse x = c.withHouse(new RungHouse(), 0, parts[1] + "up 9;down 9;first 99;");
      c.withSort(x, parts[2]);
      c.withHouse(x, 1, "rung 1;");
      c.due(row, x.setting(0, years, least), due);
      c.due(row + " call by call", settingByCalls(parts[1], new String[] {parts[2]}, years, least), due);
      for (int what = 1; what <= 3; what++) c.due("the house stays as it was: " + what, x.told(0, what), what == 3 ? 99 : 9);
    }
    // Several SORTS: their RUNGS are counted together.
    String[] houses = {"rung 120;rung 90;rung 70 kept;rung 55;rung 40;enter 1;", "rung 300;rung 40;rung 35;rung 30;rung 20;rung 10;enter 3;"};
    String[][] sorts = {{"scrape 15 60;scrape 60 30;pains 6 40;", "scrape 25 90;pains 4 25;"}, {"scrape 90 40;pains 9 50;", "scrape 40 60;pains 12 60;", "scrape 12 200;pains 3 70;"}};
    for (int i = 0; i < 2; i++) {
      for (int years : new int[] {1, 2, 5, 12}) {
        RungHouse x = c.withHouse(new RungHouse(), 0, houses[i]);
        for (String sort : sorts[i]) c.withSort(x, sort);
        for (int least : new int[] {-9999999, 0, 25000, 40000, 50000}) {
          c.due(houses[i] + " " + years + " years, " + least, x.setting(0, years, least), settingByCalls(houses[i], sorts[i], years, least));
        }
      }
    }
    // What was reckoned of another house must not linger: ten rungs on which pains are taken, then one.
    RungHouse z = c.withHouse(new RungHouse(), 0, "rung 100;");
    c.withSort(z, "scrape 30 500;scrape 31 500;pains 1 50;");
    c.withHouse(z, 1, "rung 100;".repeat(10) + "first 99;");
    c.due("ten rungs", z.setting(1, 1, -9999999), 111);
    c.due("one rung", z.setting(0, 1, -9999999), 111);
    c.due("one rung and a least", z.setting(0, 1, 0), 112);
  }

  /** The setting found call by call: each of the 36 is told as a house of its own. */
  private static int settingByCalls(String house, String[] sorts, int years, int least) {
    int most = -1, answer = Check.NONE;
    for (int i = 0; i < 36; i++) {
      int d = 1 + i / 12, u = 1 + i / 3 % 4, f = i % 3;
      RungHouse x = c.withHouse(new RungHouse(), 1, house + "up " + d + ";down " + u + ";first " + 10 * f + ";");
      int pained = 0, even = Integer.MAX_VALUE;
      for (int s = 0; s < sorts.length; s++) {
        c.withSort(x, sorts[s]);
        for (int r = 0; r < x.told(1, 0); r++) pained += x.takes(s, 1, years, 0, r);
        even = Math.min(even, x.even(s, 1, -1, years, 10, 2));
      }
      if (even >= least && pained > most) { most = pained; answer = 100 * d + 10 * u + f; }
    }
    return answer;
  }

  /** What lies just beyond the bounds of D, U and F would do, and is not tried. */
  private static void settingBounds() {
    c.says(PART, SENTENCE_OF_SETTING);
    RungHouse none = c.withHouse(new RungHouse(), 0, "rung 100;");
    c.due("no sorts: all are alike", none.setting(0, 1, 9999999), 110);
    // One rung; each month 30 or 31: the house bears 12 times the mean of both less F.
    RungHouse f = c.withSort(none, "scrape 30 500;scrape 31 500;pains 999 0;");
    c.due("F 0", f.setting(0, 1, 100000 - 366000), 110);
    c.due("F 10", f.setting(0, 1, 100000 - 366000 + 1), 111);
    c.due("F 10 just so", f.setting(0, 1, 100000 - 246000), 111);
    c.due("F 20", f.setting(0, 1, 100000 - 246000 + 1), 112);
    c.due("F 20 just so", f.setting(0, 1, 100000 - 126000), 112);
    c.due("F 21 is not tried", f.setting(0, 1, 100000 - 126000 + 1), Check.NONE);
    // Another sort by which EVEN is less: both must do.
    c.withSort(f, "scrape 32 500;scrape 33 500;");
    c.due("one of two sorts is below", f.setting(0, 1, 100000 - 126000), Check.NONE);
    c.due("none of two sorts is below", f.setting(0, 1, 100000 - 150000), 112);

    StringBuilder dear = new StringBuilder();
    for (int r = 0; r < 10; r++) dear.append("rung ").append(100 * r).append(';');
    RungHouse d = c.withHouse(new RungHouse(), 0, dear + "up 4;down 1;");
    c.withHouse(d, 1, dear + "up 3;down 1;first 20;");
    c.withSort(d, "scrape 100 100;");
    int withFour = d.even(0, 0, -1, 2, 10, 2), withThree = d.even(0, 1, -1, 2, 10, 2);
    c.due("D 4 would do", withFour > withThree ? 1 : 0, 1);
    c.due("D 4 is not tried", d.setting(0, 2, withFour), Check.NONE);
    c.due("D 3 is", d.setting(0, 2, withThree), 312);
    c.due("one more is too much", d.setting(0, 2, withThree + 1), Check.NONE);
    c.due("year 10, not 9 or 11", d.even(0, 1, -1, 2, 9, 2) != withThree && d.even(0, 1, -1, 2, 11, 2) != withThree ? 1 : 0, 1);

    // Who asks once a year falls by 4 to a rung that is free, and by 5 to one that is not.
    String cliff = "rung 999;".repeat(5) + "rung 0;".repeat(5) + "enter 9;";
    RungHouse u = c.withHouse(new RungHouse(), 0, cliff + "down 5;first 20;");
    c.withHouse(u, 1, cliff + "down 4;first 20;");
    c.withSort(u, "scrape 100 1;");
    int withFive = u.even(0, 0, -1, 1, 10, 2);
    int byFour = u.even(0, 1, -1, 1, 10, 2);
    c.due("U 5 would do", withFive > byFour ? 1 : 0, 1);
    c.due("U 5 is not tried", u.setting(0, 1, withFive), Check.NONE);
    c.due("U 4 is", u.setting(0, 1, byFour), 142);
  }

  private static int step(int seed) {
    return BigInteger.valueOf(seed).multiply(BigInteger.valueOf(1103515245)).add(BigInteger.valueOf(12345)).mod(BigInteger.TWO.pow(31)).intValueExact();
  }
  private static int seedAfter(int seed, int draws) {
    for (int i = 0; i < draws; i++) seed = step(seed);
    return seed;
  }
  private static int drawsBelow(int seed, int bound, int months) {
    int n = 0;
    for (int i = 0; i < months; i++) {
      seed = step(seed);
      if (seed / 65536 % 1000 < bound) n++;
    }
    return n;
  }
  /** A seed whose first DRAW of 1000 is the given one. */
  private static int seedFor(int draw) {
    int seed = 0;
    while (step(seed) / 65536 % 1000 != draw) seed++;
    return seed;
  }

  private static void draws() {
    c.says(PART, "LIVES by draws: THE SEED (0 at first: each DRAW it becomes it times 1103515245 and 12345, left over by 2 to the 31; the DRAW of n is it / 65536, "
        + "left over by n): MONTH by MONTH a DRAW of 1000: the first scrape with which Q so far are above it; by a RULE, no pains, from 'enter', n years: "
        + "what it costs in coins.");
    RungHouse x = c.withHouse(new RungHouse(), 0, "rung 100;rung 60;down 1;first 10;enter 1;");
    c.withSort(x, "scrape 30 100;pains 0 100;");
    c.withSort(x, "scrape 20 500;scrape 30 500;");
    c.withRule(x, "bar 31;");
    c.withRule(x, "");
    c.due("THE SEED at first", x.seed(0), 0);
    for (int seed : new int[] {0, 1, 65535, 65536, 1073741824, 2147483646, 2147483647}) {
      x.seed(seed);
      int spent = x.lives(0, 0, 0, 1);
      c.due("a year from seed " + seed, spent, 60 + 30 * drawsBelow(seed, 100, 12));
      c.due("12 draws from seed " + seed, x.seed(seed), seedAfter(seed, 12));
      x.lives(1, 0, 1, 30);
      c.due("360 draws from seed " + seed, x.seed(0), seedAfter(seed, 360));
    }
    c.due("from 'enter', down at once, for three years", x.lives(1, 0, 1, 3), 60 + 100 + 100 + 36 * 10);
    c.due("from 'enter', never asked", x.lives(1, 0, 0, 3) >= 180 + 36 * 20 ? 1 : 0, 1);

    // The edges of a DRAW: in MONTH 0 nothing is asked for, and in the others all, of which one bears nothing.
    int[] draws = {0, 1, 467, 468, 469, 998, 999};
    RungHouse z = c.withHouse(new RungHouse(), 0, "rung 0;");
    c.withSort(z, "scrape 1 468;scrape 2 1;scrape 3 530;");
    c.withSort(z, "scrape 1 1;");
    c.withSort(z, "scrape 7 1;scrape 8 999;");
    c.withRule(z, "bar 999 months 0 0;");
    int[][] due = {{1, 1, 7}, {1, 0, 8}, {1, 0, 8}, {2, 0, 8}, {3, 0, 8}, {3, 0, 8}, {0, 0, 8}};
    for (int i = 0; i < draws.length; i++) {
      for (int s = 0; s < 3; s++) {
        z.seed(seedFor(draws[i]));
        c.due("a DRAW of " + draws[i] + " of sort " + s, z.lives(s, 0, 0, 1), due[i][s]);
      }
    }
    // Twelve askings a year count as 3: from rung 9 down to 6, 3, 0.
    RungHouse t = c.withHouse(new RungHouse(), 0, "rung 1;rung 2;rung 3;rung 4;rung 5;rung 6;rung 7;rung 8;rung 9;rung 10;down 1;enter 9;");
    c.withSort(t, "scrape 20 500;scrape 30 500;");
    c.withRule(t, "");
    c.due("four years down", t.lives(0, 0, 0, 4), 10 + 7 + 4 + 1);
    // A month without a scrape is no asking, even where all is asked for; and S of B itself is asked for.
    RungHouse b = c.withHouse(new RungHouse(), 0, "rung 100;rung 60;down 1;first 10;");
    c.withSort(b, "scrape 30 1;");
    c.withSort(b, "scrape 30 500;scrape 31 500;");
    c.withRule(b, "");
    c.withRule(b, "bar 0;");
    c.withRule(b, "bar 30;");
    c.withRule(b, "bar 32;");
    c.due("from the seed 1 no DRAW of 24 is 0", drawsBelow(1, 1, 24), 0);
    for (int rule = 0; rule < 2; rule++) {
      b.seed(1);
      c.due("two years of nothing by rule " + rule, b.lives(0, 0, rule, 2), 160);
    }
    c.due("S of B or more", b.lives(1, 0, 2, 2), 200 + 24 * 10);
    b.seed(0);
    c.due("S less than B", b.lives(1, 0, 3, 1), 100 + 31 * 12 - drawsBelow(0, 500, 12));
  }

  private static void images() {
    c.says(PART, "IMAGES 0, 1 keep THE LIFE, THE YEARS, THE SEED.");
    RungHouse x = example();
    x.scrape(0, 29, true);
    x.year(0, 3);
    x.seed(2147483647);
    x.keep(0);
    x.clear();
    x.seed(0);
    x.keep(1);
    c.withSort(x, "scrape 1 1;");
    c.withRule(x, "");
    c.withHouse(x, 0, "rung 1;");
    Check.tell(x, "zap").rule();
    Check.tell(x, "up");
    x.goBack(0);
    c.due("the life of 0", x.count(2), 1);
    c.due("the years of 0", x.count(3), 1);
    c.due("the seed of 0", x.seed(5), 2147483647);
    x.goBack(1);
    c.due("the life of 1", x.count(2), 0);
    c.due("the years of 1", x.count(3), 0);
    c.due("the seed of 1", x.seed(5), 0);
    c.due("not the sorts", x.count(0), 3);
    c.due("not the rules", x.count(1), 3);
    c.due("not the houses", x.told(0, 0), 1);
    c.due("not the text", x.count(4), 2);
    c.due("not the fault", x.fault(), 0);
    c.due("image 2", x.keep(2), Check.UNKNOWN);
  }

  // ---------------------------------------------------------------- promises 24 to 33

  private static void buyAndKeep() {
    RungHouse x = example();
    c.says("Promise 24", "BUY BACK (k 1 .. 3).");
    c.due("k 1", x.buy(0, 0, 2, 0, 1, 1), 40000);
    c.bounds("k", 1, 3, Check.OUTSIDE, k -> x.buy(0, 0, 2, 0, 1, k));

    c.says("Promise 24", "UNKNOWN, OUTSIDE.");
    c.bounds("s", 0, 1, Check.UNKNOWN, s -> x.buy(s, 0, 2, 0, 0, 1));
    c.bounds("h", 0, 1, Check.UNKNOWN, h -> x.buy(0, h, 2, 0, 0, 1));
    c.bounds("r", 0, 1, Check.UNKNOWN, r -> x.buy(0, 0, 2, 0, r, 1));
    c.bounds("Y", 1, 30, Check.OUTSIDE, years -> x.buy(0, 0, years, 0, 0, 1));
    c.bounds("y of 2", 0, 1, Check.OUTSIDE, y -> x.buy(0, 0, 2, y, 0, 1));
    c.bounds("y of 30", 0, 29, Check.OUTSIDE, y -> x.buy(0, 0, 30, y, 0, 1));

    c.says("Promise 25", "KEEP (0, if it is kept).");
    RungHouse z = alwaysAsks("rung 100;rung 81;rung 72;rung 70;down 1;");
    c.withHouse(z, 1, "rung 100;rung 81;rung 72;rung 70 kept;down 1;");
    c.due("not kept", z.keepRung(0, 0, 2, 3), 19000);
    c.due("kept", z.keepRung(0, 1, 2, 3), 0);
    c.due("kept, thirty years", z.keepRung(0, 1, 30, 3), 0);

    c.says("Promise 25", "UNKNOWN, OUTSIDE.");
    c.bounds("s", 0, 0, Check.UNKNOWN, s -> z.keepRung(s, 0, 2, 0));
    c.bounds("h", 0, 1, Check.UNKNOWN, h -> z.keepRung(0, h, 2, 0));
    c.bounds("r", 0, 3, Check.UNKNOWN, r -> z.keepRung(0, 0, 2, r));
    c.bounds("Y", 1, 30, Check.OUTSIDE, years -> z.keepRung(0, 0, years, 3));
    c.bounds("Y of a kept one", 1, 30, Check.OUTSIDE, years -> z.keepRung(0, 1, years, 3));
  }

  private static void leaveAndPad() {
    RungHouse x = example();
    c.says("Promise 26", "LEAVE from HOUSE h on RUNG r: 1, 0.");
    c.due("from 0", x.leave(0, 0, 1, 0), 1);
    c.due("from 1", x.leave(0, 1, 1, 2), 0);

    c.says("Promise 26", "UNKNOWN (the other HOUSE, too), OUTSIDE.");
    c.bounds("s", 0, 1, Check.UNKNOWN, s -> x.leave(s, 0, 2, 0));
    c.bounds("h", 0, 1, Check.UNKNOWN, h -> x.leave(0, h, 2, 0));
    c.bounds("r of 0", 0, 1, Check.UNKNOWN, r -> x.leave(0, 0, 2, r));
    c.bounds("r of 1", 0, 2, Check.UNKNOWN, r -> x.leave(0, 1, 2, r));
    c.bounds("Y", 1, 30, Check.OUTSIDE, years -> x.leave(0, 0, years, 0));
    for (int h = 0; h < 2; h++) {
      RungHouse one = c.withSort(c.withHouse(new RungHouse(), h, "rung 1;"), "scrape 1 1;");
      c.due("house " + h + " alone", one.leave(0, h, 2, 0), Check.UNKNOWN);
      c.due("the other one that is not", one.leave(0, 1 - h, 2, 0), Check.UNKNOWN);
      c.due("ahead of Y", one.leave(0, h, 31, 0), Check.UNKNOWN);
    }

    c.says("Promise 27", "PAD.");
    c.due("the mean", x.pad(0, 0, 2, 0, 0, 0, 30, 50, 10), 43000);
    c.says("Promise 27", "UNKNOWN, OUTSIDE (m 0 .. 11, k 0 .. 3, S 1 .. 999, Z 0 .. 999, v 0 .. 100).");
    c.bounds("s", 0, 1, Check.UNKNOWN, s -> x.pad(s, 0, 2, 0, 0, 0, 1, 0, 0));
    c.bounds("h", 0, 1, Check.UNKNOWN, h -> x.pad(0, h, 2, 0, 0, 0, 1, 0, 0));
    c.bounds("r", 0, 1, Check.UNKNOWN, r -> x.pad(0, 0, 2, r, 0, 0, 1, 0, 0));
    c.bounds("Y", 1, 30, Check.OUTSIDE, years -> x.pad(0, 0, years, 0, 0, 0, 1, 0, 0));
    c.bounds("m", 0, 11, Check.OUTSIDE, m -> x.pad(0, 0, 2, 0, m, 0, 1, 0, 0));
    c.bounds("k", 0, 3, Check.OUTSIDE, k -> x.pad(0, 0, 2, 0, 0, k, 1, 0, 0));
    c.bounds("S", 1, 999, Check.OUTSIDE, sum -> x.pad(0, 0, 2, 0, 0, 0, sum, 0, 0));
    c.bounds("Z", 0, 999, Check.OUTSIDE, z -> x.pad(0, 0, 2, 0, 0, 0, 1, z, 0));
    c.bounds("v", 0, 100, Check.OUTSIDE, v -> x.pad(0, 0, 2, 0, 0, 0, 1, 0, v));
    c.due("Z 999 unseen", x.pad(0, 0, 2, 0, 0, 0, 1, 999, 0), 999000);
    c.due("S 999 seen", x.pad(0, 0, 1, 0, 0, 0, 999, 999, 100), -989000);
  }

  private static void setting() {
    c.says("Promise 28", "THE SETTING for a least EVEN (-9999999 .. 9999999); NONE.");
    RungHouse x = example();
    c.bounds("least", -9999999, 9999999, Check.OUTSIDE, least -> x.setting(0, 1, least));
    c.due("any will do", x.setting(0, 1, -9999999) > 0 ? 1 : 0, 1);
    c.due("none will do", x.setting(0, 1, 9999999), Check.NONE);
    c.due("no sorts", c.withHouse(new RungHouse(), 1, "rung 0;").setting(1, 12, 9999999), 110);

    c.says("Promise 28", "UNKNOWN, OUTSIDE (Y 1 .. 12 here).");
    c.bounds("h", 0, 1, Check.UNKNOWN, h -> x.setting(h, 1, 0));
    c.bounds("Y", 1, 12, Check.OUTSIDE, years -> x.setting(0, years, 0));
    c.due("a house that was not told", new RungHouse().setting(0, 1, 0), Check.UNKNOWN);
  }

  private static void seedAndLives() {
    RungHouse x = example();
    c.says("Promise 29", "THE SEED becomes v (0 .. 2147483647): what it was.");
    c.due("0 at first", x.seed(2147483647), 0);
    c.due("the greatest", x.seed(1), 2147483647);
    c.due("one", x.seed(0), 1);
    c.due("none", x.seed(7), 0);
    c.says("Promise 29", "OUTSIDE.");
    c.bounds("v", 0, 2147483647, Check.OUTSIDE, v -> new RungHouse().seed(v));
    c.due("one below", x.seed(-1), Check.OUTSIDE);
    c.due("it is as it was", x.seed(7), 7);

    c.says("Promise 30", "A LIFE by draws, n years (1 .. 30).");
    c.bounds("n", 1, 30, Check.OUTSIDE, n -> x.lives(0, 0, 0, n));
    x.seed(0);
    c.due("one year", x.lives(0, 0, 1, 1), 100 + 30 * drawsBelow(0, 100, 12));
    x.seed(0);
    c.due("thirty years", x.lives(0, 0, 1, 30), 100 + 29 * 60 + 30 * drawsBelow(0, 100, 360));
    c.says("Promise 30", "UNKNOWN, OUTSIDE.");
    c.bounds("s", 0, 1, Check.UNKNOWN, s -> x.lives(s, 0, 0, 1));
    c.bounds("h", 0, 1, Check.UNKNOWN, h -> x.lives(0, h, 0, 1));
    c.bounds("rule", 0, 1, Check.UNKNOWN, rule -> x.lives(0, 0, rule, 1));
    x.seed(9);
    c.due("no THE BEST WAY here", x.lives(0, 0, -1, 1), Check.UNKNOWN);
    c.due("n 0", x.lives(0, 0, 0, 0), Check.OUTSIDE);
    c.due("nothing was drawn", x.seed(9), 9);
  }

  private static void count() {
    c.says("Promise 31", "How many: 0 SORTS, 1 RULES, 2 scrapes of THE LIFE, 3 THE YEARS, 4 bytes of THE TEXT.");
    RungHouse x = new RungHouse();
    for (int what = 0; what < 5; what++) c.due("none of " + what, x.count(what), 0);
    c.withSort(x, "scrape 1 1;");
    for (int i = 0; i < 2; i++) c.withRule(x, "");
    for (int i = 0; i < 3; i++) x.scrape(i, 1, true);
    for (int i = 0; i < 4; i++) x.year(i, 0);
    x.feed(5, 0);
    for (int what = 0; what < 5; what++) c.due("so many of " + what, x.count(what), what + 1);
    x.house(0);
    for (int i = 1; i < 4; i++) c.withSort(x, "scrape 1 1;");
    for (int i = 2; i < 4; i++) c.withRule(x, "");
    for (int m = 3; m < 12; m++) x.scrape(m, 1, true);
    for (int i = 4; i < 8; i++) x.year(i, 0);
    Check.tell(x, " ".repeat(300));
    int[] most = {4, 4, 12, 8, 300};
    for (int what = 0; what < 5; what++) c.due("the most of " + what, x.count(what), most[what]);
    c.says("Promise 31", "OUTSIDE.");
    c.bounds("what", 0, 4, Check.OUTSIDE, what -> x.count(what));
  }

  /** MONTHS, S, whether ASKED; RUNGS, ASKINGS: all comes back. */
  private static void imagesHoldAll() {
    RungHouse x = example();
    x.scrape(11, 50, false);
    x.year(1, 0);
    x.keep(0);
    int thought = x.think(1, 0, 1);
    x.clear();
    x.scrape(0, 31, true);
    x.year(0, 3);
    x.keep(1);
    int thoughtThen = x.think(1, 0, 1);
    c.due("other years, another thought", thought == thoughtThen ? 1 : 0, 0);
    x.goBack(0);
    c.due("as the best way: in MONTH 11 50 was borne", x.judge(0, 0, 2, 0, 1), Check.NONE);
    c.due("MONTH 11 is the last", x.scrape(11, 1, true), Check.NOT);
    c.due("its years", x.think(1, 0, 1), thought);
    x.goBack(1);
    c.due("as the best way: in MONTH 0 31 was asked for", x.judge(0, 0, 2, 0, 1), Check.NONE);
    c.due("its years then", x.think(1, 0, 1), thoughtThen);
    c.due("MONTH 1 is next", x.scrape(1, 1, true), 2);
    x.clear();
    x.scrape(0, 31, false);
    x.keep(0);
    x.goBack(1);
    c.due("asked for", x.judge(0, 0, 2, 0, 1), Check.NONE);
    x.goBack(0);
    c.due("borne", x.judge(0, 0, 2, 0, 1), 0);
    x.clear();
    for (int k = 0; k < 2; k++) {
      x.year(1, k);
      x.keep(k);
      x.clear();
    }
    int none = thinkAt(x, 0), once = thinkAt(x, 1);
    c.due("its ASKINGS", none == once ? 1 : 0, 0);
    x.clear();
    x.year(1, 0);
    x.keep(0);
    x.clear();
    x.year(9, 0);
    x.keep(1);
    c.allowed("its RUNG 1", thinkAt(x, 0));
    c.due("its RUNG 9", thinkAt(x, 1), Check.NOT);
  }

  private static int thinkAt(RungHouse x, int image) {
    x.goBack(image);
    return x.think(1, 0, 1);
  }

  private static void keepAndGoBack() {
    RungHouse x = example();
    c.says("Promise 33", "UNKNOWN, NOT: it was not kept.");
    c.due("0 not kept", x.goBack(0), Check.NOT);
    c.due("1 not kept", x.goBack(1), Check.NOT);

    c.says("Promise 32", "IMAGE i becomes what is so: 1.");
    x.seed(4);
    c.due("keep 1", x.keep(1), 1);
    x.seed(5);
    c.due("keep 1 anew", x.keep(1), 1);
    x.seed(6);
    x.goBack(1);
    c.due("the newer one", x.seed(6), 5);
    c.due("0 is still not kept", x.goBack(0), Check.NOT);
    c.says("Promise 32", "UNKNOWN.");
    c.bounds("i", 0, 1, Check.UNKNOWN, i -> x.keep(i));

    c.says("Promise 33", "What is so becomes IMAGE i: 1.");
    RungHouse z = example();
    z.keep(0);
    for (int m = 0; m < 12; m++) z.scrape(m, 999, m % 2 == 0);
    for (int i = 0; i < 8; i++) z.year(i, i % 4);
    z.seed(3);
    z.keep(1);
    c.due("back to nothing", z.goBack(0), 1);
    c.due("no life, no years", z.clear(), 0);
    c.due("no seed", z.seed(8), 0);
    z.scrape(11, 1, true);
    z.year(9, 3);
    c.due("forth to all", z.goBack(1), 1);
    c.due("twelve scrapes", z.count(2), 12);
    c.due("the first that was borne", z.judge(0, 0, 1, 0, 0), 1);
    c.due("eight years", z.count(3), 8);
    c.due("their rungs", z.think(0, 0, 1), Check.NOT);
    c.due("the seed", z.seed(8), 3);
    c.due("a ninth year", z.year(0, 0), Check.FULL);
    z.clear();
    z.scrape(0, 1, true);
    c.due("an image is not changed by what comes behind", z.goBack(1), 1);
    c.due("twelve scrapes still", z.count(2), 12);
    c.due("goes on from there", z.clear(), 20);
    imagesHoldAll();

    c.says("Promise 33", "UNKNOWN, NOT: it was not kept.");
    c.bounds("i", 0, 1, Check.UNKNOWN, i -> z.goBack(i));
    RungHouse one = new RungHouse();
    one.keep(0);
    c.due("kept", one.goBack(0), 1);
    c.due("the other was not", one.goBack(1), Check.NOT);
  }
}
