/** The document's sentences with an edge, one by one: part 1 and promises 1 to 10. */
public final class EdgesOfTextsTest {
  private static final Edges c = new Edges();
  private static final String PART = "Part 1", TEN = "rung 1;".repeat(10);
  private static final String EIGHT = "scrape 1 1;scrape 2 1;scrape 3 1;scrape 4 1;scrape 5 1;scrape 6 1;scrape 7 1;scrape 8 1;";

  public static void main(String[] args) {
    houseClauses();
    sortClauses();
    wordsAndNumbers();
    faults();
    years();
    nextRung();
    painsCut();
    newObject();
    feed();
    house();
    sortAndRule();
    fault();
    told();
    scrapes();
    c.covers("Part 1");
    for (int n = 1; n <= 10; n++) c.covers("Promise " + n);
    c.close("EdgesOfTextsTest");
  }

  private static RungHouse withHouse(String text) { return c.withHouse(new RungHouse(), 0, text); }
  private static RungHouse withSort(String text) { return c.withSort(new RungHouse(), text); }

  // ---------------------------------------------------------------- part 1

  private static void houseClauses() {
    c.says(PART, "HOUSES 0, 1 are told in texts (300 bytes at most): clauses:");
    String blanks = " ".repeat(293);
    RungHouse x = Check.tell(new RungHouse(), blanks + "rung 5;");
    c.due("300 bytes", x.count(4), 300);
    c.due("the 301st", x.feed(1, ' '), Check.FULL);
    c.due("house 0 of 300 bytes", x.house(0), 1);
    c.due("its rung", x.pays(0, 0), 5);
    c.due("house 1", Check.tell(x, "rung 6;").house(1), 1);
    c.due("house 2", Check.tell(x, "rung 7;").house(2), Check.UNKNOWN);
    c.due("house 0 is its own", x.pays(0, 0), 5);
    c.due("house 1 is its own", x.pays(1, 0), 6);

    c.says(PART, "'rung' P ['kept'] ';' (RUNGS 0 and on, 10 at most, the last is the top; P 0 .. 999 coins a year)");
    c.reads("house", "rung 0;", 1, -1);
    c.reads("house", "rung 999;", 1, -1);
    c.reads("house", "rung 1000;", -12, 5);
    c.reads("house", "rung 999 kept;", 1, -1);
    c.reads("house", "rung 0kept;", 1, -1);
    c.reads("house", "rung kept 5;", -11, 5);
    c.reads("house", "rung 5 kept kept;", -11, 12);
    c.reads("house", "rung 5 kept 6;", -11, 12);
    c.reads("house", "kept 5;", -11, 0);
    c.reads("house", TEN, 10, -1);
    c.reads("house", TEN + "rung 1;", -13, 70);
    RungHouse ten = withHouse(TEN.substring(7) + "rung 999 kept;");
    c.due("P of the tenth", ten.pays(0, 9), 999);
    c.due("an eleventh", ten.pays(0, 10), Check.UNKNOWN);
    c.due("the last is the top", ten.next(0, 9, 0), 9);
    c.due("up to it", ten.next(0, 8, 0), 9);
    c.due("P 0", withHouse("rung 0;").pays(0, 0), 0);
    // A year in which nothing befalls one costs P.
    c.withSort(ten, "scrape 1 1;pains 0 100;");
    c.due("999 coins a year", ten.cost(0, 0, 1, 0, 9), 999000);

    step("'up' D ';' (1 .. 9; 1 untold)", "up", 1, 9, 1, 1);
    step("'down' U ';' (1 .. 9; 3 untold)", "down", 1, 9, 2, 3);
    step("'first' F ';' (0 .. 99; 0 untold)", "first", 0, 99, 3, 0);
    step("'enter' R ';' (RUNG 0 .. 9; 0 untold).", "enter", 0, 9, 4, 0);

    c.says(PART, "All but 'rung' once; some RUNG there must be, and 'enter' one that there is.");
    for (String word : new String[] {"up", "down", "first", "enter"}) {
      c.reads("house", "rung 1;rung 1;" + word + " 1;", 2, -1);
      c.reads("house", "rung 1;rung 1;" + word + " 1;" + word + " 1;", -13, 17 + word.length());
    }
    c.reads("house", "rung 1;rung 1;rung 1;", 3, -1);
    c.reads("house", "up 1;down 1;first 1;enter 0;", -15, 28);
    c.reads("house", "", -15, 0);
    c.reads("house", "rung 1;enter 0;", 1, -1);
    c.reads("house", "rung 1;enter 1;", -15, 15);
    c.reads("house", "rung 1;rung 1;enter 1;", 2, -1);
    c.reads("house", "enter 9;" + TEN, 10, -1);
    c.reads("house", "enter 9;" + TEN.substring(7), -15, 71);
  }

  /** A clause of one number: its bounds, no number, two numbers, and what is so if it is untold. */
  private static void step(String sentence, String word, int least, int most, int what, int untold) {
    c.says(PART, sentence);
    int at = word.length() + 1;
    c.due(word + " untold", withHouse("rung 1;").told(0, what), untold);
    c.due(word + " " + least, withHouse(TEN + word + " " + least + ";").told(0, what), least);
    c.due(word + " " + most, withHouse(TEN + word + " " + most + ";").told(0, what), most);
    if (least > 0) c.reads("house", word + " " + (least - 1) + ";" + TEN, -12, at);
    c.reads("house", word + " " + (most + 1) + ";" + TEN, -12, at);
    c.reads("house", word + ";" + TEN, -11, at - 1);
    c.reads("house", word + " 1 1;" + TEN, -11, at + 2);
    c.reads("house", word + " 1" + TEN, -11, at + 1);
    c.reads("house", word + " kept;" + TEN, -11, at);
  }

  private static void sortClauses() {
    c.says(PART, "SORTS (4 at most) are told in texts, each its own (200 bytes at most):");
    RungHouse x = new RungHouse();
    for (int i = 0; i < 4; i++) c.due("sort " + i, Check.tell(x, "scrape " + (i + 5) + " 1;").sort(), i);
    c.due("a fifth", Check.tell(x, "scrape 9 1;").sort(), Check.FULL);
    for (int i = 0; i < 4; i++) c.due("of sort " + i, x.scrapes(i, 4), i + 5);
    c.due("there is no fifth", x.scrapes(4, 4), Check.UNKNOWN);
    c.due("200 bytes", Check.tell(new RungHouse(), " ".repeat(189) + "scrape 1 1;").sort(), 0);
    c.due("201 bytes", Check.tell(new RungHouse(), " ".repeat(190) + "scrape 1 1;").sort(), Check.NOT);

    c.says(PART, "'scrape' S Q ';' (8 at most; sum S 1 .. 999 coins, with Q 1 .. 999 of a thousand a month; S rising)");
    c.reads("sort", EIGHT, 0, -1);
    c.reads("sort", EIGHT + "scrape 9 1;", -13, 88);
    c.reads("sort", "scrape 1 1;", 0, -1);
    c.reads("sort", "scrape 0 1;", -12, 7);
    c.reads("sort", "scrape 999 999;", 0, -1);
    c.reads("sort", "scrape 1000 1;", -12, 7);
    c.reads("sort", "scrape 1 0;", -12, 9);
    c.reads("sort", "scrape 1 1000;", -12, 9);
    c.reads("sort", "scrape 5 1;scrape 6 1;", 0, -1);
    c.reads("sort", "scrape 5 1;scrape 5 1;", -12, 18);
    c.reads("sort", "scrape 5 1;scrape 4 1;", -12, 18);
    c.reads("sort", "scrape 998 1;scrape 999 1;", 0, -1);
    c.reads("sort", "scrape 999 1;scrape 999 1;", -12, 20);
    c.reads("sort", "scrape 1;", -11, 8);
    c.reads("sort", "scrape;", -11, 6);
    c.reads("sort", "scrape 1 1 1;", -11, 11);
    c.reads("sort", "scrape 1 1", -11, 10);
    // Of a MILLION 1000 have none in MONTH 0, of these 1 in MONTH 1, and of one nobody goes on.
    // Eight scrapes of which F covers all: 36 coins, 1 of 1000 each, twelve times; none is asked for, and few are drawn.
    RungHouse e = c.withRule(c.withSort(withHouse("rung 0;first 8;"), EIGHT), "bar 999;");
    c.due("all eight borne", e.cost(0, 0, 1, 0, 0), 12 * 36);
    c.due("none of eight asked for", e.bar(0, 0, 1, 0, 0, 11, 0, false), Check.NONE);
    c.due("none of eight asked for in the long run", e.odds(0, 0, -1, 1, 0, 0), 1000000);
    c.due("none of eight by a rule", e.fixed(0, 0, 0, 1, 0, 0), 12 * 36);
    c.withHouse(e, 1, "rung 0;first 7;");
    c.due("the eighth asked for", e.bar(0, 1, 1, 0, 0, 11, 0, false), 8);
    // 1 of 1000 a month: 999000, 998001, 997003, 996006, ..
    c.due("its Q alone", e.odds(0, 1, -1, 1, 0, 0) / 1000, 988);
    e.seed(1);
    c.due("none of eight drawn", e.lives(0, 0, 0, 1), 0);
    RungHouse z = c.withSort(withHouse("rung 0;"), "scrape 999 999;");
    c.withRule(z, "");
    c.due("Q of a thousand", z.odds(0, 0, 0, 1, 0, 0), 1);
    c.due("S in coins", z.pad(0, 0, 1, 0, 0, 3, 999, 0, 100), -999000);

    c.says(PART, "'pains' C X ';' (once; C 0 .. 999 coins a year, X 0 .. 100 of a hundred fewer; none untold).");
    c.reads("sort", "scrape 1 1;pains 0 0;", 0, -1);
    c.reads("sort", "pains 999 100;scrape 1 1;", 0, -1);
    c.reads("sort", "pains 1000 0;scrape 1 1;", -12, 6);
    c.reads("sort", "pains 0 101;scrape 1 1;", -12, 8);
    c.reads("sort", "pains 1 1;scrape 1 1;pains 1 1;", -13, 21);
    c.reads("sort", "pains 1;scrape 1 1;", -11, 7);
    c.reads("sort", "pains 1 1 1;scrape 1 1;", -11, 10);
    RungHouse p = c.withSort(c.withSort(c.withSort(withHouse("rung 0;first 99;"), "scrape 99 500;"), "scrape 99 500;pains 0 0;"), "scrape 99 500;pains 0 100;");
    c.due("untold C", p.scrapes(0, 2), Check.NONE);
    c.due("untold X", p.scrapes(0, 3), Check.NONE);
    c.due("C 0", p.scrapes(1, 2), 0);
    c.due("X 0", p.scrapes(1, 3), 0);
    c.due("untold: not taken", p.takes(0, 0, 1, 0, 0), 0);
    c.due("none fewer: not taken", p.takes(1, 0, 1, 0, 0), 0);
    c.due("a hundred fewer: nothing befalls one", p.cost(2, 0, 1, 0, 0), 0);
    // 99 coins, 500 of 1000, 12 times are 594 coins a year: pains for 593 are taken, for 594 not.
    RungHouse q = c.withSort(c.withSort(withHouse("rung 0;first 99;"), "scrape 99 500;pains 593 100;"), "scrape 99 500;pains 594 100;");
    c.due("593 coins a year", q.cost(0, 0, 1, 0, 0), 593000);
    c.due("594 coins a year", q.takes(1, 0, 1, 0, 0), 0);

    c.says(PART, "In a month there is one scrape, or none; all Q are 1000 together at most.");
    c.reads("sort", "scrape 1 500;scrape 2 500;", 0, -1);
    c.reads("sort", "scrape 1 500;scrape 2 501;", -14, 22);
    c.reads("sort", "scrape 1 1;scrape 2 999;", 0, -1);
    c.reads("sort", "scrape 1 2;scrape 2 999;", -14, 20);
    c.reads("sort", EIGHT.replace("8 1;", "8 993;"), 0, -1);
    c.reads("sort", EIGHT.replace("8 1;", "8 994;"), -14, 86);
    // One scrape each month, as 500 and 500 are 1000: after a year all have asked thrice or more; with 499 and 500 some have not.
    RungHouse m = c.withSort(c.withSort(withHouse("rung 0;"), "scrape 1 500;scrape 2 500;"), "scrape 1 499;scrape 2 500;");
    c.withRule(m, "");
    c.due("one a month", m.odds(0, 0, 0, 1, 0, 3), 1000000);
    c.due("or none", m.even(1, 0, 0, 1, 0, 1) < m.even(0, 0, 0, 1, 0, 1) ? 1 : 0, 1);
    m.seed(0);
    // A year by draws, nothing asked for: each month one of the two, never both.
    c.withRule(m, "bar 999;");
    int spent = m.lives(0, 0, 1, 1);
    c.due("12 to 24 coins (" + spent + ")", spent >= 12 && spent <= 24 ? 1 : 0, 1);
  }

  private static void wordsAndNumbers() {
    c.says(PART, "NUMBERS have one to three figures; words are letters a .. z side by side; blanks (32) may stand anywhere but within words and NUMBERS; "
        + "two words, two NUMBERS side by side need one.");
    c.reads("house", "rung 7;", 1, -1);
    c.due("one figure", withHouse("rung 7;").pays(0, 0), 7);
    c.due("two figures", withHouse("rung 07;").pays(0, 0), 7);
    c.due("three figures", withHouse("rung 007;").pays(0, 0), 7);
    c.reads("house", "rung 0007;", -12, 5);
    c.reads("house", "rung ;", -11, 5);
    // The bytes beside '0', '9', 'a', 'z' and the blank are none of these.
    for (char b : new char[] {'/', ':', '`', '{', 31, 33, 9, 10, 13, 0, 127, 128, 160, 255, 'A', 'Z', '-', '+', '.', ','}) {
      c.reads("house", b + "rung 7;", -11, 0);
      c.reads("house", "rung" + b + "7;", -11, 4);
      c.reads("house", "rung 7" + b + ";", -11, 6);
      c.reads("house", "rung 7;" + b, -11, 7);
      c.reads("house", "ru" + b + "ng 7;", -11, 0);
    }
    c.reads("house", "  rung  7  kept  ;  up  2  ;  ", 1, -1);
    c.reads("house", "rung7kept;up2;", 1, -1);
    c.reads("house", "ru ng 7;", -11, 0);
    c.reads("house", "rung 7 ke pt;", -11, 7);
    c.reads("house", "rung 7 7;", -11, 7);
    c.reads("house", "u p 2;rung 1;", -11, 0);
    c.reads("sort", "scrape1 1;pains2 2;", 0, -1);
    c.reads("sort", "scrape11;", -11, 8);
    c.reads("sort", "scrape1  1;", 0, -1);
    c.reads("sort", "scrape 1 1 ; pains 2 2 ; ", 0, -1);
    c.reads("rule", "bar5rungs1 2months3 4;", 0, -1);
    c.reads("rule", " bar 5 rungs 1 2 months 3 4 ; ", 0, -1);
    c.reads("rule", "bar5rungs12;", -12, 9);
    c.reads("rule", "bar5rungs1;", -11, 10);
    c.reads("house", "rungkept 7;", -11, 0);
    c.reads("house", "rung 7;upup 2;", -11, 7);
  }

  private static void faults() {
    c.says(PART, "FAULTS, at the first byte that has one (the end at the text's length), of these the least:");
    c.reads("house", "up 0;down 0;zap", -12, 3);
    c.reads("house", "down 1;zap;up 0;", -11, 7);
    c.reads("house", "up 1;up 0;", -13, 5);
    c.reads("sort", "scrape 1 999;scrape 1 999;", -12, 20);
    c.reads("house", "rung 1", -11, 6);
    c.reads("house", "rung 1  ", -11, 8);
    c.reads("house", "rung", -11, 4);
    c.reads("house", " ".repeat(300), -15, 300);
    c.reads("house", " ".repeat(294) + "rung 1", -11, 300);
    c.reads("house", " ".repeat(296) + "rung", -11, 300);
    c.reads("house", " ".repeat(297) + "run", -11, 297);
    c.reads("house", " ".repeat(291) + "rung 1000", -12, 296);
    c.reads("house", " ".repeat(299) + ";", -11, 299);
    // Bytes of an earlier text that lie beyond the end of this one are not of it.
    String[] earlier = {"rungs 123456;", "rung 12;", "rung 1;", "rung 1 kept;"};
    String[] later = {"rung", "rung 1", "rung 1", "rung 1 kept"};
    for (int i = 0; i < 4; i++) {
      RungHouse x = new RungHouse();
      Check.tell(x, earlier[i]).house(0);
      c.due("'" + later[i] + "' behind '" + earlier[i] + "'", Check.tell(x, later[i]).house(0), -11);
      c.due("'" + later[i] + "' behind '" + earlier[i] + "': fault", x.fault(), later[i].length());
    }
    // A number of four figures that cannot stand there: 1 is less than 2. A Q out of its bounds that is too much as well: 2 is less than 4.
    c.reads("house", "1000", -11, 0);
    c.reads("house", "rung 1 1000;", -11, 7);
    c.reads("sort", "scrape 1 999;scrape 2 1000;", -12, 22);

    c.says(PART, "1 it cannot stand there (a word that cannot: at its first letter).");
    c.reads("house", "rung 1;rungs 1;", -11, 7);
    c.reads("house", "rung 1;run 1;", -11, 7);
    c.reads("house", "rung 1;run", -11, 7);
    c.reads("house", "rung 1;  zap", -11, 9);
    c.reads("house", "sung 1;", -11, 0);
    c.reads("house", "runz 1;", -11, 0);
    c.reads("house", "rungz 1;", -11, 0);
    c.reads("house", "runga 1;", -11, 0);
    c.reads("house", "zrung 1;", -11, 0);
    c.reads("house", "rung 1 keptz;", -11, 7);
    c.reads("house", "rung 1 kepts;", -11, 7);
    c.reads("house", "rung 1 kep", -11, 7);
    c.reads("house", "rung 1 up 2;", -11, 7);
    c.reads("house", "scrape 1 1;", -11, 0);
    c.reads("house", "bar 1;", -11, 0);
    c.reads("sort", "rung 1;", -11, 0);
    c.reads("sort", "scrape one 1;", -11, 7);
    c.reads("house", ";", -11, 0);
    c.reads("house", "rung 1;;", -11, 7);
    c.reads("house", "5;", -11, 0);
    c.reads("house", "rung 1;5", -11, 7);

    c.says(PART, "2 a NUMBER of four figures or more, or out of its bounds, an S that is not above the one ahead (at its first).");
    c.reads("house", "rung 999;", 1, -1);
    c.reads("house", "rung 0999;", -12, 5);
    c.reads("house", "rung 9999;", -12, 5);
    c.reads("house", "rung " + "0".repeat(295), -12, 5);
    // 4294967301 is 5 left over by 2 to the 32, 18446744073709551621 by 2 to the 64.
    c.reads("house", "rung 4294967301;", -12, 5);
    c.reads("house", "rung 18446744073709551621;", -12, 5);
    c.reads("house", "up    10;", -12, 6);
    c.reads("house", "up 9;rung 1;", 1, -1);
    c.reads("sort", "scrape 7 1;scrape   7 1;", -12, 20);
    c.reads("sort", "scrape 7 1;pains 1 1;scrape 7 1;", -12, 28);
    c.reads("sort", "scrape 7 1;pains 1 1;scrape 8 1;", 0, -1);

    c.says(PART, "3 what was told already, an 11th RUNG, a ninth scrape (at the clause's first letter).");
    c.reads("house", "up 1;  up 1;", -13, 7);
    c.reads("house", "up 1;up", -13, 5);
    c.reads("house", "first 1;first zap;", -13, 8);
    c.reads("house", "up 1;down 1;up 1;", -13, 12);
    c.reads("house", "enter 0;rung 1;enter 0;", -13, 15);
    c.reads("house", TEN + "up 1;", 10, -1);
    c.reads("house", TEN + "  rung 1;", -13, 72);
    c.reads("house", TEN + "rung 1000;", -13, 70);
    c.reads("sort", EIGHT + "pains 1 1;", 0, -1);
    c.reads("sort", EIGHT + " scrape 1 1;", -13, 89);
    c.reads("sort", EIGHT + "scrape", -13, 88);
    c.reads("sort", "pains 1 1;pains 1000 1;", -13, 10);

    c.says(PART, "4 all Q together above 1000 (at that Q).");
    c.reads("sort", "scrape 1 999;scrape 2 1;", 0, -1);
    c.reads("sort", "scrape 1 999;scrape 2   2;", -14, 24);
    c.reads("sort", "scrape 1 999;scrape 2 1;scrape 3 1;", -14, 33);
    c.reads("sort", "scrape 1 600;pains 1 50;scrape 2 600;", -14, 33);
    c.reads("sort", "scrape 1 999;scrape 2 2", -14, 22);

    c.says(PART, "If there is none of these: 5 no RUNG, no scrape, an 'enter' beyond the top (at the end of the text).");
    c.reads("house", "up 1;", -15, 5);
    c.reads("house", "up 1;   ", -15, 8);
    c.reads("house", "up 1;up 1;", -13, 5);
    c.reads("house", "up 1", -11, 4);
    c.reads("sort", "", -15, 0);
    c.reads("sort", "pains 1 1; ", -15, 11);
    c.reads("house", "enter 1;rung 1;", -15, 15);
    c.reads("house", "enter 1;rung 1;rung 1;", 2, -1);
    c.reads("house", "enter 2;rung 1;rung 1; ", -15, 23);
    c.reads("house", "enter 2;rung 1;zap", -11, 15);
  }

  private static void years() {
    c.says(PART, "A YEAR on RUNG r has 12 MONTHS (0 .. 11); one pays P at its beginning.");
    RungHouse x = c.withSort(withHouse("rung 100;first 99;"), "scrape 1 500;");
    // 500 thousandths a month, twelve times; P is not of IN, but of COST.
    c.due("ahead of MONTH 0", x.in(0, 0, 1, 0, 0, 0, 0, false), 6000);
    c.due("ahead of MONTH 11", x.in(0, 0, 1, 0, 0, 11, 0, false), 500);
    c.due("behind it", x.in(0, 0, 1, 0, 0, 12, 0, false), 0);
    c.due("P and twelve months", x.cost(0, 0, 1, 0, 0), 106000);
    c.due("MONTH 0 of a life", x.scrape(0, 1, true), 1);
    c.due("MONTH 11 of a life", x.scrape(11, 1, true), 2);
    c.due("MONTH 12 of a life", x.scrape(12, 1, true), Check.OUTSIDE);

    c.says(PART, "ASKED for a scrape one bears S or F, the less, the house the rest; else one bears S.");
    RungHouse z = c.withHouse(new RungHouse(), 1, "rung 0;first 10;");
    for (int s : new int[] {9, 10, 11, 998}) c.withSort(z, "scrape " + s + " 500;");
    c.withRule(z, "bar 0 months 0 0;bar 999;");
    c.withRule(z, "bar 999;");
    // Asked for in MONTH 0 alone, and never: one month by F, the others by S.
    int[] asked = {9, 10, 10, 10}, rest = {0, 0, 1, 988}, borne = {9, 10, 11, 998};
    for (int s = 0; s < 4; s++) {
      c.due("asked, sort " + s, z.fixed(0, s, 1, 1, 0, 0), 500 * asked[s] + 11 * 500 * borne[s]);
      c.due("the rest, sort " + s, z.even(s, 1, 0, 1, 0, 1), 500 * rest[s]);
      c.due("not asked, sort " + s, z.fixed(1, s, 1, 1, 0, 0), 12 * 500 * borne[s]);
    }

    c.says(PART, "ASKINGS of a year are counted to 3 (more count as 3).");
    RungHouse t = c.withHouse(new RungHouse(), 0, "down 1;enter 9;" + TEN);
    c.withSort(t, "scrape 1 500;scrape 2 500;");
    c.withRule(t, "");
    // Twelve askings a year: three rungs down a year, from 9 to 6, 3 and 0.
    c.due("year 1", t.standing(0, 0, 0, 1, 1, 6), 1000000);
    c.due("year 2", t.standing(0, 0, 0, 1, 2, 3), 1000000);
    c.due("year 3", t.standing(0, 0, 0, 1, 3, 0), 1000000);
    c.due("3 askings", t.next(0, 9, 3), 6);
    c.due("4 askings", t.next(0, 9, 4), Check.OUTSIDE);
  }

  private static void nextRung() {
    c.says(PART, "NEXT of r by k ASKINGS: none: D up, the top at most; else U times k down (a 'kept' RUNG: k less 1 in place of k; if that is 0, it stays), "
        + "0 at least.");
    RungHouse x = withHouse("up 2;down 2;" + "rung 1;".repeat(5) + "rung 1 kept;" + "rung 1;".repeat(4));
    int[][] due = {{2, 0, 0, 0}, {3, 0, 0, 0}, {4, 0, 0, 0}, {5, 1, 0, 0}, {6, 2, 0, 0}, {7, 5, 3, 1}, {8, 4, 2, 0}, {9, 5, 3, 1}, {9, 6, 4, 2}, {9, 7, 5, 3}};
    for (int r = 0; r < 10; r++) {
      for (int k = 0; k < 4; k++) c.due("next(0, " + r + ", " + k + ")", x.next(0, r, k), due[r][k]);
    }
    RungHouse far = withHouse("up 9;down 9;" + "rung 1;".repeat(9) + "rung 1 kept;");
    c.due("9 up from 0", far.next(0, 0, 0), 9);
    c.due("9 up from 1", far.next(0, 1, 0), 9);
    c.due("9 down from 8", far.next(0, 8, 1), 0);
    c.due("kept 9 by one", far.next(0, 9, 1), 9);
    c.due("9 down from kept 9 by two", far.next(0, 9, 2), 0);
    RungHouse one = withHouse("rung 1 kept;");
    for (int k = 0; k < 4; k++) c.due("the only rung by " + k, one.next(0, 0, k), 0);
  }

  private static void painsCut() {
    c.says(PART, "Q of a SORT with pains: Q times (100 less X) / 100 (cut).");
    // One coin of which one bears all: a year by pains is 12 times the Q by pains.
    int[][] cases = {{999, 0, 999}, {999, 1, 989}, {999, 50, 499}, {999, 99, 9}, {999, 100, 0}, {1, 0, 1}, {1, 1, 0}, {3, 33, 2}, {3, 34, 1}, {100, 99, 1}, {99, 99, 0}};
    for (int[] one : cases) {
      RungHouse x = c.withSort(withHouse("rung 0;first 1;"), "scrape 1 " + one[0] + ";pains 0 " + one[1] + ";");
      c.due(one[0] + " less " + one[1] + " of a hundred", x.in(0, 0, 1, 0, 0, 0, 0, true), 12 * one[2]);
    }
    // Each Q is cut by itself: 1 and 1 less 50 of a hundred are 0 and 0, not 1.
    RungHouse z = c.withSort(withHouse("rung 0;first 9;"), "scrape 1 1;scrape 2 1;pains 0 50;");
    c.due("cut each", z.in(0, 0, 1, 0, 0, 0, 0, true), 0);
    c.due("as it is told", z.scrapes(0, 12), 1);
    c.due("all Q as they are told", z.scrapes(0, 1), 2);
  }

  // ---------------------------------------------------------------- promises 1 to 10

  private static void newObject() {
    c.says("Promise 1", "No HOUSES, no SORTS.");
    RungHouse x = new RungHouse();
    for (int h = 0; h < 2; h++) {
      c.due("told of house " + h, x.told(h, 0), Check.UNKNOWN);
      c.due("pays of house " + h, x.pays(h, 0), Check.UNKNOWN);
      c.due("next of house " + h, x.next(h, 0, 0), Check.UNKNOWN);
      c.due("setting of house " + h, x.setting(h, 1, 0), Check.UNKNOWN);
    }
    for (int s = 0; s < 4; s++) c.due("sort " + s, x.scrapes(s, 0), Check.UNKNOWN);
    for (int what = 0; what < 5; what++) c.due("count " + what, x.count(what), 0);
    c.due("no fault", x.fault(), Check.NONE);
    c.due("no seed", x.seed(0), 0);
    c.due("nothing to clear", x.clear(), 0);
    c.due("no image", x.goBack(0), Check.NOT);
    c.withHouse(x, 0, "rung 1;");
    c.due("a house, but no sort", x.cost(0, 0, 1, 0, 0), Check.UNKNOWN);
    c.due("a house, but no sort for lives", x.lives(0, 0, 0, 1), Check.UNKNOWN);
    c.withSort(x, "scrape 1 1;");
    c.due("both, but no rule", x.fixed(0, 0, 0, 1, 0, 0), Check.UNKNOWN);
    c.due("both, but no other house", x.leave(0, 0, 1, 0), Check.UNKNOWN);
    RungHouse other = new RungHouse();
    c.due("another object has its own", other.told(0, 0), Check.UNKNOWN);
    c.due("and its own sorts", other.scrapes(0, 0), Check.UNKNOWN);
  }

  private static void feed() {
    c.says("Promise 2", "Up to eight bytes (n 1 .. 8) of a long, the highest of these first, come behind THE TEXT: how many it has.");
    RungHouse x = new RungHouse();
    // 'rung 12;' of eight bytes; 'rung 3;' of the seven lowest, with others above these; ';' of one.
    c.due("eight bytes", x.feed(8, 0x72756e672031323bL), 8);
    c.due("seven bytes", x.feed(7, 0xff72756e6720333bL), 15);
    c.due("no bytes but blanks", x.feed(3, 0x202020L), 18);
    c.due("the house of these", x.house(0), 2);
    c.due("eight bytes were", x.pays(0, 0), 12);
    c.due("seven bytes were", x.pays(0, 1), 3);
    c.due("one byte of -1", x.feed(1, -1L), 1);
    c.due("is 255", x.house(0), -11);
    c.due("a long of the least", x.feed(8, Long.MIN_VALUE), 8);
    c.due("begins with 128", x.house(0), -11);
    c.due("at its first", x.fault(), 0);
    for (int n = 1; n <= 8; n++) c.due("n " + n, x.feed(n, 0x2020202020202020L), n * (n + 1) / 2);

    c.says("Promise 2", "OUTSIDE, FULL (300).");
    RungHouse z = new RungHouse();
    for (int n : new int[] {0, 9, -1, Integer.MIN_VALUE, Integer.MAX_VALUE}) c.due("n " + n, z.feed(n, 0), Check.OUTSIDE);
    for (int i = 1; i <= 36; i++) c.due("blanks", z.feed(8, 0x2020202020202020L), 8 * i);
    c.due("to 295", z.feed(7, 0x20202020202020L), 295);
    for (int n = 6; n <= 8; n++) c.due(n + " of 5", z.feed(n, 0x3b3b3b3b3b3b3b3bL), Check.FULL);
    c.due("still 295", z.count(4), 295);
    c.due("5 of 5", z.feed(5, 0x2020202020L), 300);
    c.due("1 of none", z.feed(1, 0x20), Check.FULL);
    c.due("none of what was refused has come", z.house(0), -15);
    c.due("the end", z.fault(), 300);
    c.due("anew", z.feed(1, 0x20), 1);
  }

  private static void house() {
    c.says("Promise 3", "THE TEXT (it is empty then) becomes a HOUSE: how many RUNGS; -10 less the number of its FAULT (it is as it was).");
    RungHouse x = new RungHouse();
    c.due("one rung", Check.tell(x, "rung 1;").house(0), 1);
    c.due("the text is empty", x.count(4), 0);
    c.due("ten rungs", Check.tell(x, "up 5;down 6;first 7;enter 8;" + TEN.substring(7) + "rung 2 kept;").house(0), 10);
    String[] faulty = {"zap", "rung 1000;", "up 1;up 1;", "up 1;", "rung 3;enter 1;"};
    int[] answers = {-11, -12, -13, -15, -15};
    for (int i = 0; i < faulty.length; i++) {
      c.due(faulty[i], Check.tell(x, faulty[i]).house(0), answers[i]);
      c.due("the text is empty behind " + faulty[i], x.count(4), 0);
      int[] was = {10, 5, 6, 7, 8, 512};
      for (int what = 0; what < 6; what++) c.due("as it was: " + what, x.told(0, what), was[what]);
      c.due("as it was: P", x.pays(0, 9), 2);
      c.due(faulty[i] + " of house 1", Check.tell(x, faulty[i]).house(1), answers[i]);
      c.due("there is still no house 1", x.told(1, 0), Check.UNKNOWN);
    }
    c.due("told anew", Check.tell(x, "rung 4;").house(0), 1);
    int[] anew = {1, 1, 3, 0, 0, 0};
    for (int what = 0; what < 6; what++) c.due("nothing is left of it: " + what, x.told(0, what), anew[what]);
    c.due("nothing is left of its rungs", x.pays(0, 1), Check.UNKNOWN);
    c.due("the empty text", x.house(0), -15);
    String[] words = {"up", "down", "first", "enter"};
    for (int i = 0; i < 4; i++) {
      RungHouse one = new RungHouse();
      c.due(words[i] + " 2", Check.tell(one, words[i] + " 2;rung 1;rung 1;rung 1 kept;").house(1), 3);
      c.due("told anew without " + words[i], Check.tell(one, "rung 1;rung 1;rung 1;").house(1), 3);
      c.due(words[i] + " is untold then", one.told(1, i + 1), i == 0 ? 1 : i == 1 ? 3 : 0);
      c.due("none is kept then", one.told(1, 5), 0);
      c.due(words[i] + " 2 with a fault", Check.tell(one, words[i] + " 2;rung 1 kept;zap").house(0), -11);
      c.due("then without a fault", Check.tell(one, "rung 1;rung 1;rung 1;").house(0), 3);
      c.due(words[i] + " is untold behind the fault", one.told(0, i + 1), i == 0 ? 1 : i == 1 ? 3 : 0);
      c.due("none is kept behind the fault", one.told(0, 5), 0);
    }

    c.says("Promise 3", "UNKNOWN (0, 1; THE TEXT stays).");
    RungHouse z = Check.tell(new RungHouse(), "rung 5;");
    for (int h : new int[] {2, -1, Integer.MIN_VALUE, Integer.MAX_VALUE}) {
      c.due("house " + h, z.house(h), Check.UNKNOWN);
      c.due("the text stays", z.count(4), 7);
    }
    c.due("house 1", z.house(1), 1);
    c.due("house 0", Check.tell(z, "rung 6;").house(0), 1);
  }

  private static void sortAndRule() {
    c.says("Promise 4", "THE TEXT (it is empty then) is a SORT: its number; -10 less the number of its FAULT.");
    RungHouse x = new RungHouse();
    c.due("the first", Check.tell(x, "scrape 1 1;").sort(), 0);
    c.due("the text is empty", x.count(4), 0);
    String[] faulty = {"zap", "scrape 0 1;", "pains 1 1;pains 1 1;", "scrape 1 999;scrape 2 2;", "pains 1 1;"};
    for (int i = 0; i < 5; i++) {
      c.due(faulty[i], Check.tell(x, faulty[i]).sort(), -11 - i);
      c.due("the text is empty behind " + faulty[i], x.count(4), 0);
      c.due("one sort as before", x.count(0), 1);
    }
    c.due("the empty text", x.sort(), -15);
    c.due("the second", Check.tell(x, "scrape 2 1;").sort(), 1);
    c.due("no pains are left over", x.scrapes(1, 2), Check.NONE);
    c.due("eight scrapes, pains and a fault", Check.tell(x, EIGHT.replace("8 1;", "8 993;") + "pains 0 100;zap").sort(), -11);
    c.due("the third", Check.tell(x, "scrape 5 6;").sort(), 2);
    int[] third = {1, 6, -1, -1, 5, -1};
    for (int what = 0; what < 6; what++) c.due("nothing is left of the fault: " + what, x.scrapes(2, what), third[what]);
    c.withRule(c.withHouse(x, 0, "rung 0;"), "bar 999;");
    // From the seed 0 the draws are 0 and then 468 and more: one scrape of 5.
    x.seed(0);
    c.due("nor by draws", x.lives(2, 0, 0, 1) % 5, 0);

    c.says("Promise 4", "NOT: more than 200 bytes; FULL (THE TEXT stays, of both).");
    Check.tell(x, " ".repeat(190) + "scrape 1 1;");
    c.due("201 bytes", x.sort(), Check.NOT);
    c.due("stay", x.count(4), 201);
    c.due("300 bytes", Check.tell(x, " ".repeat(99)).sort(), Check.NOT);
    c.due("stay all", x.count(4), 300);
    x.house(0);
    c.due("200 bytes: the fourth", Check.tell(x, " ".repeat(189) + "scrape 4 1;").sort(), 3);
    c.due("a fifth", Check.tell(x, "scrape 5 1;").sort(), Check.FULL);
    c.due("stays", x.count(4), 11);
    c.due("and again", x.sort(), Check.FULL);
    c.due("four", x.count(0), 4);
    c.due("the text can be read on", x.house(0), -11);

    c.says("Promise 5", "THE TEXT (it is empty then) is a RULE: its number; -10 less the number of its FAULT.");
    RungHouse z = new RungHouse();
    c.due("the first", Check.tell(z, "bar 1;").rule(), 0);
    c.due("the text is empty", z.count(4), 0);
    String[] faults = {"zap", "bar 1000;", "bar 1;".repeat(7)};
    for (int i = 0; i < 3; i++) {
      c.due(faults[i], Check.tell(z, faults[i]).rule(), -11 - i);
      c.due("the text is empty behind " + faults[i], z.count(4), 0);
      c.due("one rule as before", z.count(1), 1);
    }
    c.due("the empty text", z.rule(), 1);
    c.withSort(c.withHouse(z, 0, TEN), "scrape 30 100;");
    c.due("nothing is left of the faults: all is asked for", z.fixed(1, 0, 0, 1, 0, 0), 1000);
    c.due("two clauses and a fault", Check.tell(z, "bar 1 rungs 3 5 months 4 6;bar 2;zap").rule(), -11);
    c.due("a clause for all", Check.tell(z, "bar 31;").rule(), 2);
    for (int r = 0; r < 10; r++) c.due("nothing is asked for on rung " + r, z.fixed(2, 0, 0, 1, 0, r), 37000);

    c.says("Promise 5", "NOT: more than 120 bytes; FULL (THE TEXT stays, of both).");
    c.due("121 bytes", Check.tell(z, " ".repeat(115) + "bar 1;").rule(), Check.NOT);
    c.due("stay", z.count(4), 121);
    z.house(0);
    c.due("120 bytes: the fourth", Check.tell(z, " ".repeat(114) + "bar 1;").rule(), 3);
    c.due("a fifth of no bytes", z.rule(), Check.FULL);
    c.due("a fifth", Check.tell(z, "bar 1;").rule(), Check.FULL);
    c.due("stays", z.count(4), 6);
    c.due("four", z.count(1), 4);
  }

  private static void fault() {
    c.says("Promise 6", "The byte of the FAULT of the latest house(), sort() or rule() that was not refused otherwise; NONE.");
    RungHouse x = new RungHouse();
    c.due("at first", x.fault(), Check.NONE);
    Check.tell(x, "rung 1;up 0;").house(0);
    c.due("of house", x.fault(), 10);
    c.due("asked again", x.fault(), 10);
    Check.tell(x, "bar 1;bar").house(7);
    c.due("behind UNKNOWN", x.fault(), 10);
    x.rule();
    c.due("of rule", x.fault(), 9);
    Check.tell(x, " ".repeat(201)).sort();
    c.due("behind NOT of sort", x.fault(), 9);
    x.rule();
    c.due("behind NOT of rule", x.fault(), 9);
    x.house(0);
    c.due("the end of 201 bytes", x.fault(), 201);
    Check.tell(x, "pains").sort();
    c.due("of sort", x.fault(), 5);
    x.rule();
    c.due("none of the latest", x.fault(), Check.NONE);
    Check.tell(x, "zap").sort();
    c.due("at byte 0", x.fault(), 0);
    Check.tell(x, "scrape 1 1;").sort();
    c.due("none of a sort", x.fault(), Check.NONE);
    Check.tell(x, "zap").rule();
    Check.tell(x, "rung 1;").house(0);
    c.due("none of a house", x.fault(), Check.NONE);
    for (int i = 1; i < 4; i++) c.withRule(c.withSort(x, "scrape 1 1;"), "");
    Check.tell(x, "oh").sort();
    c.due("behind FULL of sort", x.fault(), Check.NONE);
    x.rule();
    c.due("behind FULL of rule", x.fault(), Check.NONE);
    x.feed(9, 0);
    x.house(0);
    c.due("of the house of the same text", x.fault(), 0);
  }

  private static void told() {
    c.says("Promise 7", "Of a HOUSE: what = 0 RUNGS, 1 D, 2 U, 3 F, 4 'enter', 5 RUNGS that are kept (a SET).");
    RungHouse x = withHouse("rung 9 kept;enter 2;rung 8;rung 7 kept;first 12;up 4;down 5;");
    int[] told = {3, 4, 5, 12, 2, 5};
    for (int what = 0; what < 6; what++) c.due("what " + what, x.told(0, what), told[what]);

    c.says("Promise 7", "UNKNOWN (one that was not told, too), OUTSIDE.");
    c.due("not told", x.told(1, 0), Check.UNKNOWN);
    Check.tell(x, "rung 1;enter 1;").house(1);
    c.due("told with a fault", x.told(1, 0), Check.UNKNOWN);
    c.withHouse(x, 1, "rung 1;");
    c.bounds("h", 0, 1, Check.UNKNOWN, h -> x.told(h, 0));
    c.bounds("what", 0, 5, Check.OUTSIDE, what -> x.told(0, what));

    c.says("Promise 8", "P of a RUNG.");
    for (int r = 0; r < 3; r++) c.due("rung " + r, x.pays(0, r), 9 - r);
    c.says("Promise 8", "UNKNOWN.");
    c.bounds("r", 0, 2, Check.UNKNOWN, r -> x.pays(0, r));
    c.bounds("r of the other house", 0, 0, Check.UNKNOWN, r -> x.pays(1, r));
    c.bounds("h", 0, 1, Check.UNKNOWN, h -> x.pays(h, 0));

    c.says("Promise 9", "NEXT by k ASKINGS (0 .. 3).");
    RungHouse z = withHouse("down 1;up 1;" + "rung 1;".repeat(5));
    int[] next = {4, 2, 1, 0};
    for (int k = 0; k < 4; k++) c.due("k " + k, z.next(0, 3, k), next[k]);
    c.bounds("k", 0, 3, Check.OUTSIDE, k -> z.next(0, 3, k));
    c.says("Promise 9", "UNKNOWN, OUTSIDE.");
    c.bounds("r", 0, 4, Check.UNKNOWN, r -> z.next(0, r, 0));
    c.bounds("h", 0, 0, Check.UNKNOWN, h -> z.next(h, 0, 0));
    c.due("both", z.next(0, 5, 4), Check.UNKNOWN);
  }

  private static void scrapes() {
    c.says("Promise 10", "Of a SORT: what = 0 how many scrapes, 1 all Q, 2 C (NONE), 3 X (NONE), 4 and i S of scrape i (0 .. 7; NONE), 12 and i its Q (NONE).");
    RungHouse x = withSort("scrape 3 10;pains 6 70;");
    c.withSort(x, "scrape 1 9;scrape 2 8;scrape 3 7;scrape 4 6;scrape 5 5;scrape 6 4;scrape 7 3;scrape 8 2;");
    c.withSort(x, "pains 0 0;scrape 998 999;scrape 999 1;");
    int[][] due = {
        {1, 10, 6, 70, 3, -1, -1, -1, -1, -1, -1, -1, 10, -1, -1, -1, -1, -1, -1, -1},
        {8, 44, -1, -1, 1, 2, 3, 4, 5, 6, 7, 8, 9, 8, 7, 6, 5, 4, 3, 2},
        {2, 1000, 0, 0, 998, 999, -1, -1, -1, -1, -1, -1, 999, 1, -1, -1, -1, -1, -1, -1}};
    for (int s = 0; s < 3; s++) {
      for (int what = 0; what < 20; what++) c.due("scrapes(" + s + ", " + what + ")", x.scrapes(s, what), due[s][what]);
    }
    c.says("Promise 10", "UNKNOWN, OUTSIDE.");
    c.bounds("s", 0, 2, Check.UNKNOWN, s -> x.scrapes(s, 0));
    c.bounds("what", 0, 19, Check.OUTSIDE, what -> x.scrapes(0, what));
    c.due("both", x.scrapes(3, 20), Check.UNKNOWN);
  }
}
