import java.lang.reflect.Constructor;
import java.lang.reflect.Field;
import java.lang.reflect.Method;
import java.lang.reflect.Modifier;
import java.math.BigInteger;
import java.util.ArrayList;
import java.util.Arrays;
import java.util.List;
import java.util.TreeSet;
import java.util.function.ToIntFunction;

/** The document's sentences with an edge, one by one: the public face, the 512 calls, 'Terms'. */
public final class EdgesOfTermsTest {
  private static final Edges c = new Edges();
  private static final String TERMS = "Terms";

  public static void main(String[] args) {
    calls();
    face();
    numbers();
    refusals();
    farBelow();
    nothingChanges();
    coins();
    c.covers("Terms");
    c.close("EdgesOfTermsTest");
  }

  private static void calls() {
    c.says("What it is", "An object is used for at most 512 calls after it has been made; what later calls answer is free.");
    RungHouse x = new RungHouse();
    // Nine calls tell house 1, then blanks go in and out until three calls are left.
    for (char b : "rung 42;".toCharArray()) x.feed(1, b);
    c.due("call 9", x.house(1), 1);
    for (int call = 10; call <= 509; call += 2) {
      c.due("call " + call, x.feed(1, ' '), 1);
      c.due("call " + (call + 1), x.house(0), -15);
    }
    c.due("call 510", x.feed(8, 0), 8);
    c.due("call 511", x.fault(), 1);
    c.due("call 512", x.pays(1, 0), 42);
  }

  private static void face() {
    c.says("The public face", "public static final int NONE = -1, UNKNOWN = -1000000001, OUTSIDE = -1000000002, NOT = -1000000003, FULL = -1000000004;");
    c.due("NONE", RungHouse.NONE, -1);
    c.due("UNKNOWN", RungHouse.UNKNOWN, -1000000001);
    c.due("OUTSIDE", RungHouse.OUTSIDE, -1000000002);
    c.due("NOT", RungHouse.NOT, -1000000003);
    c.due("FULL", RungHouse.FULL, -1000000004);
    int constants = 0;
    for (Field f : RungHouse.class.getDeclaredFields()) {
      if (Modifier.isPrivate(f.getModifiers())) continue;
      constants++;
      boolean constant = Modifier.isPublic(f.getModifiers()) && Modifier.isStatic(f.getModifiers()) && Modifier.isFinal(f.getModifiers());
      c.due(f.getName() + " is a constant", constant ? 1 : 0, 1);
    }
    c.due("constants", constants, 5);

    c.says("The public face", "public final class RungHouse {");
    int flags = RungHouse.class.getModifiers();
    c.due("public and final", Modifier.isPublic(flags) && Modifier.isFinal(flags) ? 1 : 0, 1);

    c.says("The public face", "public RungHouse();");
    Constructor<?>[] constructors = RungHouse.class.getDeclaredConstructors();
    c.due("constructors", constructors.length, 1);
    c.due("its parameters", constructors[0].getParameterCount(), 0);
    c.due("it is public", Modifier.isPublic(constructors[0].getModifiers()) ? 1 : 0, 1);

    TreeSet<String> due = new TreeSet<>(List.of("feed(int, long)", "house(int)", "sort()", "rule()", "fault()", "told(int, int)", "pays(int, int)",
        "next(int, int, int)", "scrapes(int, int)", "cost(int, int, int, int, int)", "in(int, int, int, int, int, int, int, boolean)",
        "takes(int, int, int, int, int)", "bar(int, int, int, int, int, int, int, boolean)", "fixed(int, int, int, int, int, int)",
        "scrape(int, int, boolean)", "judge(int, int, int, int, int)", "standing(int, int, int, int, int, int)",
        "odds(int, int, int, int, int, int)", "even(int, int, int, int, int, int)", "year(int, int)", "clear()", "think(int, int, int)",
        "buy(int, int, int, int, int, int)", "keepRung(int, int, int, int)", "leave(int, int, int, int)",
        "pad(int, int, int, int, int, int, int, int, int)", "setting(int, int, int)", "seed(int)", "lives(int, int, int, int)", "count(int)",
        "keep(int)", "goBack(int)"));
    TreeSet<String> seen = new TreeSet<>();
    for (Method m : RungHouse.class.getDeclaredMethods()) {
      if (Modifier.isPrivate(m.getModifiers()) || m.isSynthetic()) continue;
      List<String> parameters = new ArrayList<>();
      for (Class<?> p : m.getParameterTypes()) parameters.add(p.getName());
      seen.add(m.getName() + "(" + String.join(", ", parameters) + ")");
      c.due(m.getName() + " is public and answers an int", Modifier.isPublic(m.getModifiers()) && m.getReturnType() == int.class ? 1 : 0, 1);
    }
    c.due("methods " + seen + " are those of the face", seen.equals(due) ? 1 : 0, 1);
  }

  /** Rungs for 1, 0, 0 coins, one down; a scrape of one coin, 1 of 1000: IN (0, 2, 11, 1) is 1, IN (0, 2, 11, 3) is 1000. */
  private static RungHouse thousandths() {
    RungHouse x = c.withHouse(new RungHouse(), 0, "rung 1;rung 0;rung 0;down 1;");
    return c.withSort(x, "scrape 1 1;");
  }

  private static void numbers() {
    c.says(TERMS, "Words in capitals are told where they come first. All numbers are whole; / cuts towards 0.");
    RungHouse x = thousandths();
    c.due("1 of IN", x.in(0, 0, 2, 0, 2, 11, 1, false), 1);
    c.due("1000 of IN", x.in(0, 0, 2, 0, 2, 11, 3, false), 1000);
    // Padding costs 1999 more when it is seen.
    c.due("(100000 less 0) / 100", x.pad(0, 0, 2, 2, 10, 0, 1, 1, 0), 1000);
    c.due("(99000 less 1999) / 100", x.pad(0, 0, 2, 2, 10, 0, 1, 1, 1), 970);
    c.due("(0 less 1999) / 100", x.pad(0, 0, 2, 2, 10, 0, 1, 0, 1), -19);
    c.due("(50000 less 99950) / 100", x.pad(0, 0, 2, 2, 10, 0, 1, 1, 50), -499);
    c.due("(0 less 199900) / 100", x.pad(0, 0, 2, 2, 10, 0, 1, 0, 100), -1999);

    c.says(TERMS, "What has a number has it from 0 on, as it comes.");
    RungHouse z = new RungHouse();
    for (int i = 0; i < 4; i++) {
      c.due("sort " + i, Check.tell(z, "scrape " + (i + 1) + " 1;scrape 9 " + (i + 1) + ";").sort(), i);
      c.due("rule " + i, Check.tell(z, "bar " + i + ";").rule(), i);
    }
    for (int i = 0; i < 4; i++) {
      c.due("scrape 0 of sort " + i, z.scrapes(i, 4), i + 1);
      c.due("scrape 1 of sort " + i, z.scrapes(i, 13), i + 1);
    }
    c.due("house 1 ahead of house 0", Check.tell(z, "rung 5;rung 7;rung 6;").house(1), 3);
    c.due("rung 0", z.pays(1, 0), 5);
    c.due("rung 1", z.pays(1, 1), 7);
    c.due("rung 2", z.pays(1, 2), 6);
    c.due("rung 3", z.pays(1, 3), Check.UNKNOWN);
    z.scrape(4, 1, true);
    z.scrape(7, 1, false);
    // All is asked for in the last year: scrape 1, which was borne, is the first that does the other.
    c.due("scrape 1 of the life", z.judge(0, 1, 1, 0, 0), 1);

    c.says(TERMS, "A SET is a whole number, bit k for k.");
    String[] kept = {"rung 1;", "rung 1 kept;", "rung 1;rung 1 kept;", "rung 1 kept;rung 1;rung 1 kept;", "rung 1;".repeat(9) + "rung 1 kept;",
        "rung 1 kept;".repeat(10)};
    int[] sets = {0, 1, 2, 5, 512, 1023};
    for (int i = 0; i < kept.length; i++) c.due(kept[i], c.withHouse(new RungHouse(), 0, kept[i]).told(0, 5), sets[i]);

    c.says(TERMS, "NONE is -1.");
    c.due("NONE", RungHouse.NONE, -1);
    c.due("no fault", new RungHouse().fault(), -1);

    c.says(TERMS, "MILLION is 1000000.");
    c.due("all of them", x.standing(0, 0, -1, 1, 0, 0), 1000000);
  }

  private static final String SENTENCE_OF_REFUSALS = "REFUSALS, of several the first in this order: UNKNOWN (a HOUSE, RUNG, SORT, RULE, IMAGE that there is not), "
      + "OUTSIDE (another number out of its bounds), NOT (not now, as told), FULL.";

  /** House 0 of two rungs, no house 1, two sorts, two rules; the life is at its last month, the years are eight. */
  private static RungHouse example() {
    RungHouse x = c.withHouse(new RungHouse(), 0, "rung 100;rung 60;down 1;first 10;");
    c.withSort(x, "scrape 30 100;");
    c.withSort(x, "scrape 30 100;pains 1 50;");
    c.withRule(x, "");
    c.withRule(x, "bar 31;");
    x.scrape(0, 30, true);
    x.scrape(11, 30, true);
    for (int i = 0; i < 7; i++) x.year(0, 0);
    x.year(2, 0);
    x.seed(77);
    x.keep(1);
    return x;
  }

  private static void refusals() {
    c.says(TERMS, SENTENCE_OF_REFUSALS);
    RungHouse x = example();
    c.due("told: HOUSE ahead of what", x.told(1, 6), Check.UNKNOWN);
    c.due("told: what", x.told(0, 6), Check.OUTSIDE);
    c.due("next: RUNG ahead of k", x.next(0, 2, 4), Check.UNKNOWN);
    c.due("next: k", x.next(0, 1, 4), Check.OUTSIDE);
    c.due("scrapes: SORT ahead of what", x.scrapes(2, 20), Check.UNKNOWN);
    c.due("scrapes: what", x.scrapes(1, 20), Check.OUTSIDE);
    c.due("cost: SORT ahead of Y", x.cost(2, 0, 0, 0, 0), Check.UNKNOWN);
    c.due("cost: HOUSE ahead of y", x.cost(0, 1, 1, 2, 0), Check.UNKNOWN);
    c.due("cost: RUNG ahead of Y", x.cost(0, 0, 31, 0, 2), Check.UNKNOWN);
    c.due("in: RUNG ahead of m", x.in(0, 0, 1, 0, 2, 13, 0, false), Check.UNKNOWN);
    c.due("takes: RUNG ahead of y", x.takes(0, 0, 1, 1, -1), Check.UNKNOWN);
    c.due("bar: SORT ahead of k", x.bar(-1, 0, 1, 0, 0, 0, 4, false), Check.UNKNOWN);
    c.due("fixed: RULE ahead of Y", x.fixed(2, 0, 0, 0, 0, 0), Check.UNKNOWN);
    c.due("judge: HOUSE ahead of y", x.judge(0, 1, 1, 1, 0), Check.UNKNOWN);
    c.due("standing: RULE ahead of t", x.standing(0, 0, 2, 1, 31, 0), Check.UNKNOWN);
    c.due("standing: RUNG ahead of t", x.standing(0, 0, 0, 1, 31, 2), Check.UNKNOWN);
    c.due("odds: RULE ahead of k", x.odds(0, 0, -2, 1, 0, 4), Check.UNKNOWN);
    c.due("even: SORT ahead of what", x.even(2, 0, 0, 1, 0, 3), Check.UNKNOWN);
    c.due("think: SORT ahead of Y and the years", x.think(2, 0, 0), Check.UNKNOWN);
    c.due("think: SORT ahead of the years", x.think(2, 0, 1), Check.UNKNOWN);
    c.due("think: Y ahead of the years", x.think(0, 0, 0), Check.OUTSIDE);
    c.due("think: the years", x.think(0, 0, 1), Check.NOT);
    c.due("buy: RUNG ahead of k", x.buy(0, 0, 1, 0, 2, 0), Check.UNKNOWN);
    c.due("keepRung: RUNG ahead of Y", x.keepRung(0, 0, 0, 2), Check.UNKNOWN);
    c.due("leave: the other HOUSE ahead of Y", x.leave(0, 0, 0, 0), Check.UNKNOWN);
    c.due("pad: RUNG ahead of v", x.pad(0, 0, 1, 2, 0, 0, 1, 0, 101), Check.UNKNOWN);
    c.due("setting: HOUSE ahead of Y", x.setting(1, 0, 0), Check.UNKNOWN);
    c.due("lives: RULE ahead of n", x.lives(0, 0, 2, 0), Check.UNKNOWN);
    c.due("goBack: IMAGE ahead of what was not kept", x.goBack(2), Check.UNKNOWN);
    c.due("goBack: what was not kept", x.goBack(0), Check.NOT);
    c.due("scrape: S ahead of the MONTH that does not rise", x.scrape(11, 0, true), Check.OUTSIDE);
    c.due("scrape: the MONTH does not rise", x.scrape(11, 1, true), Check.NOT);
    c.due("year: r ahead of FULL", x.year(10, 0), Check.OUTSIDE);
    c.due("year: k ahead of FULL", x.year(0, 4), Check.OUTSIDE);
    c.due("year: FULL", x.year(0, 0), Check.FULL);
    Check.tell(x, " ".repeat(300));
    c.due("feed: n ahead of FULL", x.feed(9, 0), Check.OUTSIDE);
    c.due("feed: FULL", x.feed(1, 0), Check.FULL);

    RungHouse full = new RungHouse();
    for (int i = 0; i < 4; i++) c.withRule(c.withSort(full, "scrape 1 1;"), "");
    c.due("sort: FULL", full.sort(), Check.FULL);
    c.due("rule: FULL", full.rule(), Check.FULL);
    Check.tell(full, " ".repeat(201));
    c.due("sort: NOT ahead of FULL", full.sort(), Check.NOT);
    c.due("rule: NOT ahead of FULL", full.rule(), Check.NOT);
  }

  private static void farBelow() {
    c.says(TERMS, "They are far below all that is counted: -1000000001 and on.");
    // Each month a scrape, of all that the house bears 12 times (998 and 999 times 999), and nobody pays.
    RungHouse x = c.withHouse(new RungHouse(), 0, "rung 0;");
    c.withSort(x, "scrape 998 1;scrape 999 999;");
    c.due("the least EVEN", x.even(0, 0, -1, 30, 30, 2), -11987988);
    c.due("the least PAD", x.pad(0, 0, 30, 0, 0, 3, 999, 0, 100), -999000);
    // A rule that bears 998 with 999 of 1000: 997002 a month, 999000 a year, and no more can be spent.
    c.withHouse(x, 1, "rung 999;");
    c.withSort(x, "scrape 998 999;");
    c.withRule(x, "bar 999;");
    c.due("the most FIXED", x.fixed(0, 1, 1, 30, 0, 0), 30 * (999000 + 12 * 997002));
    // From the top one falls to the dear rung 0 and stays: all years behind the first one cost 999 more, and all is asked for.
    RungHouse z = c.withHouse(new RungHouse(), 0, "rung 999;rung 0;down 1;");
    c.withSort(z, "scrape 999 999;");
    int most = z.buy(0, 0, 30, 0, 1, 1);
    c.due("a great BUY BACK (" + most + ")", most > 0 && most < 500000000 ? 1 : 0, 1);
    RungHouse w = c.withHouse(new RungHouse(), 0, "rung 0;rung 999;down 1;");
    c.withSort(w, "scrape 999 999;");
    int least = w.buy(0, 0, 30, 0, 1, 1);
    c.due("a BUY BACK below 0 (" + least + ")", least < 0 && least > -500000000 ? 1 : 0, 1);
    int[] refusals = {RungHouse.UNKNOWN, RungHouse.OUTSIDE, RungHouse.NOT, RungHouse.FULL};
    for (int i = 0; i < 4; i++) c.due("refusal " + i, refusals[i], -1000000001 - i);
  }

  /** Calls that are refused by the example: each must leave it as it was. */
  private static List<ToIntFunction<RungHouse>> refused() {
    List<ToIntFunction<RungHouse>> calls = new ArrayList<>(Arrays.asList(
        x -> x.feed(0, 0x3b), x -> x.feed(9, 0x3b), x -> x.house(2), x -> x.house(-1), x -> x.told(1, 0), x -> x.told(0, 6), x -> x.pays(0, 2),
        x -> x.next(0, 0, 4), x -> x.scrapes(2, 0), x -> x.cost(0, 0, 31, 0, 0), x -> x.in(0, 0, 1, 1, 0, 0, 0, true),
        x -> x.takes(0, 0, 1, 1, 0), x -> x.bar(0, 0, 1, 0, 0, 12, 0, true), x -> x.fixed(2, 0, 0, 1, 0, 0), x -> x.fixed(1, 0, 0, 0, 0, 0)));
    calls.addAll(Arrays.asList(x -> x.scrape(12, 1, true), x -> x.scrape(11, 1, false), x -> x.scrape(0, 1, false), x -> x.scrape(5, 1000, true),
        x -> x.judge(0, 0, 1, 1, 0), x -> x.standing(0, 0, 2, 1, 0, 0), x -> x.standing(0, 0, 1, 31, 0, 0), x -> x.odds(0, 0, 1, 1, 0, 4),
        x -> x.even(0, 0, 1, 1, 31, 0), x -> x.year(10, 0), x -> x.year(0, 4), x -> x.year(0, 0), x -> x.think(0, 0, 1), x -> x.think(0, 0, 31)));
    calls.addAll(Arrays.asList(x -> x.buy(0, 0, 1, 0, 0, 0), x -> x.keepRung(0, 0, 31, 0), x -> x.keepRung(0, 0, 1, 2), x -> x.leave(0, 0, 1, 0),
        x -> x.pad(0, 0, 1, 0, 12, 0, 1, 0, 0), x -> x.setting(0, 13, 0), x -> x.setting(1, 1, 0), x -> x.seed(-1), x -> x.lives(0, 0, 2, 1),
        x -> x.lives(0, 0, 0, 31), x -> x.lives(0, 0, 0, 0), x -> x.count(5), x -> x.keep(2), x -> x.goBack(0), x -> x.goBack(2)));
    return calls;
  }

  private static void nothingChanges() {
    c.says(TERMS, "What is refused changes nothing.");
    int number = 0;
    for (ToIntFunction<RungHouse> call : refused()) {
      RungHouse x = example();
      RungHouse like = example();
      for (RungHouse one : new RungHouse[] {x, like}) {
        Check.tell(one, "rung 0;up 0;").house(1);
        Check.tell(one, "rung 8");
      }
      int answer = call.applyAsInt(x);
      c.due("call " + number + " is refused (" + answer + ")", answer <= Check.UNKNOWN ? 1 : 0, 1);
      alike("behind call " + number, x, like);
      number++;
    }
    // What is refused for the text's length, or as there are enough, changes nothing either.
    for (int bytes : new int[] {201, 300, 7}) {
      RungHouse x = crowded(bytes);
      RungHouse like = crowded(bytes);
      c.due("sort is refused", x.sort() <= Check.NOT ? 1 : 0, 1);
      c.due("rule is refused", x.rule() <= Check.NOT ? 1 : 0, 1);
      if (bytes == 300) c.due("feed is refused", x.feed(1, 0), Check.FULL);
      alike("behind a text of " + bytes, x, like);
    }
  }

  private static RungHouse crowded(int bytes) {
    RungHouse x = example();
    for (int i = 2; i < 4; i++) c.withRule(c.withSort(x, "scrape 1 1;"), "");
    Check.tell(x, "up 0;").house(1);
    return Check.tell(x, " ".repeat(bytes - 7) + "rung 8;");
  }

  private static void alike(String when, RungHouse x, RungHouse like) {
    int[] a = everything(x);
    int[] b = everything(like);
    for (int i = 0; i < a.length; i++) c.due(when + ": answer " + i, a[i], b[i]);
  }

  /** Answers that tell of all that an object holds: texts, faults, houses, sorts, rules, life, years, seed, images. */
  private static int[] everything(RungHouse x) {
    List<Integer> answers = new ArrayList<>();
    for (int what = 0; what < 5; what++) answers.add(x.count(what));
    answers.add(x.fault());
    for (int what = 0; what < 6; what++) answers.add(x.told(0, what));
    answers.add(x.told(1, 0));
    for (int s = 0; s < 4; s++) {
      for (int what = 0; what < 20; what++) answers.add(x.scrapes(s, what));
    }
    for (int rule = 0; rule < 3; rule++) answers.add(x.fixed(rule, 0, 0, 3, 0, 1));
    for (int s = 0; s < 2; s++) {
      answers.add(x.cost(s, 0, 4, 0, 1));
      answers.add(x.judge(s, 0, 2, 0, 0));
      answers.add(x.judge(s, 0, 2, 1, 0));
    }
    answers.add(x.lives(0, 0, 1, 2));
    answers.add(x.seed(3));
    answers.add(x.feed(1, ';'));
    answers.add(x.house(1));
    answers.add(x.fault());
    answers.add(x.pays(1, 0));
    answers.add(Check.tell(x, "rung 1;rung 1;rung 1;").house(1));
    for (int s = 0; s < 2; s++) answers.add(x.think(s, 1, 2));
    for (int i = 0; i < 2; i++) {
      answers.add(x.goBack(i));
      answers.add(x.seed(9));
      answers.add(x.clear());
    }
    return answers.stream().mapToInt(Integer::intValue).toArray();
  }

  private static void coins() {
    c.says(TERMS, "Coins that are reckoned with are in thousandths.");
    RungHouse x = c.withHouse(new RungHouse(), 0, "rung 7;first 3;");
    c.withSort(x, "scrape 2 1;");
    c.withRule(x, "bar 999;");
    c.due("7 coins are told", x.pays(0, 0), 7);
    // 2 coins with 1 of 1000 a month: 2 thousandths, 12 times
    c.due("7 coins are reckoned with", x.cost(0, 0, 1, 0, 0), 7024);
    c.due("by a rule", x.fixed(0, 0, 0, 1, 0, 0), 7024);
    c.due("a month", x.in(0, 0, 1, 0, 0, 11, 0, false), 2);
    // A life by draws is told in coins; of the seed 1 it has no scrape.
    x.seed(1);
    c.due("none of 12 draws is 0", drawsOfZero(1), 0);
    c.due("a life", x.lives(0, 0, 0, 1), 7);
  }

  private static int drawsOfZero(int seed) {
    BigInteger s = BigInteger.valueOf(seed);
    int zeros = 0;
    for (int i = 0; i < 12; i++) {
      s = s.multiply(BigInteger.valueOf(1103515245)).add(BigInteger.valueOf(12345)).mod(BigInteger.TWO.pow(31));
      if (s.intValueExact() / 65536 % 1000 == 0) zeros++;
    }
    return zeros;
  }
}
