import java.util.ArrayList;
import java.util.HashMap;
import java.util.List;
import java.util.Map;

/**
 * The document read a second time, slowly and without regard to room: every year of every reckoning is worked out
 * anew from the words of the document. CompareTest sets RungHouse against it.
 */
final class Oracle {
  static final int UNKNOWN = -1000000001, OUTSIDE = -1000000002, NOT = -1000000003, FULL = -1000000004;

  record Token(String text, int at) {
    boolean isNumber() { return !text.isEmpty() && Character.isDigit(text.charAt(0)); }
    int value() { return text.length() > 3 ? 100000 : Integer.parseInt(text); }
  }
  static final class Fault extends RuntimeException {
    private static final long serialVersionUID = 1;
    final int number, at;
    Fault(int number, int at) { super(null, null, false, false); this.number = number; this.at = at; }
  }
  record House(List<Integer> pay, List<Boolean> kept, int d, int u, int f, int enter) {
    int next(int r, int k) {
      if (k == 0) return Math.min(r + d, pay.size() - 1);
      int steps = kept.get(r) ? k - 1 : k;
      return steps == 0 ? r : Math.max(0, r - u * steps);
    }
    House with(int d2, int u2, int f2) { return new House(pay, kept, d2, u2, f2, enter); }
    House keeping(int r) {
      List<Boolean> k = new ArrayList<>(kept);
      k.set(r, true);
      return new House(pay, k, d, u, f, enter);
    }
  }
  record Sort(List<Integer> s, List<Integer> q, Integer c, Integer x) {
    int q(int i, boolean pains) { return pains && x != null ? q.get(i) * (100 - x) / 100 : q.get(i); }
    int all(boolean pains) {
      int sum = 0;
      for (int i = 0; i < s.size(); i++) sum += q(i, pains);
      return sum;
    }
  }
  record Rule(List<int[]> clauses) {
    boolean asks(int r, int m, int s) {
      for (int[] c : clauses) if (c[1] <= r && r <= c[2] && c[3] <= m && m <= c[4]) return s >= c[0];
      return true;
    }
  }
  record State(List<int[]> life, List<int[]> years, int seed) {
    State copy() { return new State(new ArrayList<>(life), new ArrayList<>(years), seed); }
  }

  private final StringBuilder text = new StringBuilder();
  private final House[] houses = new House[2];
  private final List<Sort> sorts = new ArrayList<>();
  private final List<Rule> rules = new ArrayList<>();
  private State now = new State(new ArrayList<>(), new ArrayList<>(), 0);
  private final State[] images = new State[2];
  private int faultAt = -1;

  // ---------------------------------------------------------------- texts
  private List<Token> tokens;
  private int pos;

  private void cut() {
    tokens = new ArrayList<>();
    pos = 0;
    int i = 0;
    String t = text.toString();
    while (i < t.length()) {
      char c = t.charAt(i);
      int j = i + 1;
      if (c == ' ') { i++; continue; }
      if (c >= 'a' && c <= 'z') while (j < t.length() && t.charAt(j) >= 'a' && t.charAt(j) <= 'z') j++;
      if (c >= '0' && c <= '9') while (j < t.length() && t.charAt(j) >= '0' && t.charAt(j) <= '9') j++;
      tokens.add(new Token(t.substring(i, j), i));
      i = j;
    }
    tokens.add(new Token("", t.length()));
  }
  private Token peek() { return tokens.get(pos); }
  private boolean take(String word) {
    if (!peek().text.equals(word)) return false;
    pos++;
    return true;
  }
  private int number(int low, int high) {
    Token t = peek();
    boolean number = t.text.length() > 0 && t.text.charAt(0) >= '0' && t.text.charAt(0) <= '9';
    if (!number) throw new Fault(1, t.at);
    if (t.text.length() > 3 || t.value() < low || t.value() > high) throw new Fault(2, t.at);
    pos++;
    return t.value();
  }
  private void semicolon() { if (!take(";")) throw new Fault(1, peek().at); }
  private boolean ended() { return pos == tokens.size() - 1; }

  private House parseHouse() {
    List<Integer> pay = new ArrayList<>();
    List<Boolean> kept = new ArrayList<>();
    Map<String, Integer> told = new HashMap<>();
    while (!ended()) {
      Token t = peek();
      if (take("rung")) {
        if (pay.size() == 10) throw new Fault(3, t.at);
        pay.add(number(0, 999));
        kept.add(take("kept"));
        semicolon();
      } else if (List.of("up", "down", "first", "enter").contains(t.text)) {
        pos++;
        if (told.containsKey(t.text)) throw new Fault(3, t.at);
        int[] b = switch (t.text) { case "first" -> new int[] {0, 99}; case "enter" -> new int[] {0, 9}; default -> new int[] {1, 9}; };
        told.put(t.text, number(b[0], b[1]));
        semicolon();
      } else throw new Fault(1, t.at);
    }
    int enter = told.getOrDefault("enter", 0);
    if (pay.isEmpty() || enter > pay.size() - 1) throw new Fault(5, text.length());
    return new House(pay, kept, told.getOrDefault("up", 1), told.getOrDefault("down", 3), told.getOrDefault("first", 0), enter);
  }
  private Sort parseSort() {
    List<Integer> s = new ArrayList<>(), q = new ArrayList<>();
    Integer c = null, x = null;
    int all = 0;
    while (!ended()) {
      Token t = peek();
      if (take("scrape")) {
        if (s.size() == 8) throw new Fault(3, t.at);
        s.add(number(s.isEmpty() ? 1 : s.get(s.size() - 1) + 1, 999));
        int at = peek().at;
        q.add(number(1, 999));
        all += q.get(q.size() - 1);
        if (all > 1000) throw new Fault(4, at);
        semicolon();
      } else if (take("pains")) {
        if (c != null) throw new Fault(3, t.at);
        c = number(0, 999);
        x = number(0, 100);
        semicolon();
      } else throw new Fault(1, t.at);
    }
    if (s.isEmpty()) throw new Fault(5, text.length());
    return new Sort(s, q, c, x);
  }
  private Rule parseRule() {
    List<int[]> clauses = new ArrayList<>();
    while (!ended()) {
      Token t = peek();
      if (!take("bar")) throw new Fault(1, t.at);
      if (clauses.size() == 6) throw new Fault(3, t.at);
      int[] c = {number(0, 999), 0, 9, 0, 11};
      if (take("rungs")) { c[1] = number(0, 9); c[2] = number(c[1], 9); }
      if (take("months")) { c[3] = number(0, 11); c[4] = number(c[3], 11); }
      semicolon();
      clauses.add(c);
    }
    return new Rule(clauses);
  }

  int feed(int n, long bytes) {
    if (n < 1 || n > 8) return OUTSIDE;
    if (text.length() + n > 300) return FULL;
    for (int i = 0; i < n; i++) text.append((char) (bytes >> 8 * (n - 1 - i) & 0xff));
    return text.length();
  }
  int house(int h) {
    if (h != 0 && h != 1) return UNKNOWN;
    return close(() -> { houses[h] = parseHouse(); return houses[h].pay.size(); });
  }
  int sort() {
    if (text.length() > 200) return NOT;
    if (sorts.size() == 4) return FULL;
    return close(() -> { sorts.add(parseSort()); return sorts.size() - 1; });
  }
  int rule() {
    if (text.length() > 120) return NOT;
    if (rules.size() == 4) return FULL;
    return close(() -> { rules.add(parseRule()); return rules.size() - 1; });
  }
  interface Work { int go(); }
  private int close(Work w) {
    int answer;
    cut();
    try {
      answer = w.go();
      faultAt = -1;
    } catch (Fault f) {
      answer = -10 - f.number;
      faultAt = f.at;
    }
    text.setLength(0);
    return answer;
  }
  int fault() { return faultAt; }

  // ---------------------------------------------------------------- what there is
  private boolean noHouse(int h) { return h < 0 || h > 1 || houses[h] == null; }
  private boolean noRung(int h, int r) { return noHouse(h) || r < 0 || r >= houses[h].pay.size(); }
  private boolean noSort(int s) { return s < 0 || s >= sorts.size(); }
  private boolean noRule(int p) { return p < 0 || p >= rules.size(); }

  int told(int h, int what) {
    if (noHouse(h)) return UNKNOWN;
    if (what < 0 || what > 5) return OUTSIDE;
    House o = houses[h];
    int set = 0;
    for (int r = 0; r < o.pay.size(); r++) if (o.kept.get(r)) set += 1 << r;
    return new int[] {o.pay.size(), o.d, o.u, o.f, o.enter, set}[what];
  }
  int pays(int h, int r) { return noRung(h, r) ? UNKNOWN : houses[h].pay.get(r); }
  int next(int h, int r, int k) {
    if (noRung(h, r)) return UNKNOWN;
    if (k < 0 || k > 3) return OUTSIDE;
    return houses[h].next(r, k);
  }
  int scrapes(int s, int what) {
    if (noSort(s)) return UNKNOWN;
    if (what < 0 || what > 19) return OUTSIDE;
    Sort o = sorts.get(s);
    if (what == 0) return o.s.size();
    if (what == 1) return o.all(false);
    if (what == 2) return o.c == null ? -1 : o.c;
    if (what == 3) return o.x == null ? -1 : o.x;
    int i = what < 12 ? what - 4 : what - 12;
    if (i >= o.s.size()) return -1;
    return what < 12 ? o.s.get(i) : o.q.get(i);
  }

  // ---------------------------------------------------------------- the best way, year by year from y on
  /** COST (y, r) and IN (y, r, m, k, pains) of one SORT, HOUSE, RULE (null: the best way), over Y years. */
  static final class Way {
    final Sort s; final House h; final Rule rule; final int years;
    final Map<Integer, Long> ins = new HashMap<>(), costs = new HashMap<>();
    Way(Sort s, House h, Rule rule, int years) { this.s = s; this.h = h; this.rule = rule; this.years = years; }

    long plain(int y, int r) { return h.pay.get(r) * 1000L + in(y, r, 0, 0, false); }
    long pained(int y, int r) { return h.pay.get(r) * 1000L + in(y, r, 0, 0, true) + s.c * 1000L; }
    boolean takes(int y, int r) { return rule == null && s.c != null && pained(y, r) < plain(y, r); }
    long cost(int y, int r) {
      if (y >= years) return 0;
      int key = y * 10 + r;
      if (!costs.containsKey(key)) costs.put(key, takes(y, r) ? pained(y, r) : plain(y, r));
      return costs.get(key);
    }
    long in(int y, int r, int m, int k, boolean pains) {
      if (m == 12) return cost(y + 1, h.next(r, k));
      int key = (((y * 10 + r) * 13 + m) * 4 + k) * 2 + (pains ? 1 : 0);
      Long known = ins.get(key);
      if (known != null) return known;
      long sum = (1000 - s.all(pains)) * in(y, r, m + 1, k, pains);
      for (int i = 0; i < s.s.size(); i++) {
        int S = s.s.get(i);
        long borne = S * 1000L + in(y, r, m + 1, k, pains);
        long asked = Math.min(S, h.f) * 1000L + in(y, r, m + 1, Math.min(3, k + 1), pains);
        boolean asks = rule == null ? asked < borne : rule.asks(r, m, S);
        sum += s.q(i, pains) * (asks ? asked : borne);
      }
      ins.put(key, sum / 1000);
      return sum / 1000;
    }
    boolean asks(int y, int r, int m, int k, int S, boolean pains) {
      if (rule != null) return rule.asks(r, m, S);
      return Math.min(S, h.f) * 1000L + in(y, r, m + 1, Math.min(3, k + 1), pains) < S * 1000L + in(y, r, m + 1, k, pains);
    }

    /** Row m: how many have k askings ahead of MONTH m; row 12: at the end. */
    long[][] odds(int r) {
      boolean pains = takes(0, r);
      long[][] odds = new long[13][4];
      odds[0][0] = 1000000;
      for (int m = 0; m < 12; m++) {
        for (int k = 0; k < 4; k++) {
          long q = 0;
          for (int i = 0; i < s.s.size(); i++) if (asks(0, r, m, k, s.s.get(i), pains)) q += s.q(i, pains);
          long go = odds[m][k] * q / 1000;
          odds[m + 1][k] += odds[m][k] - go;
          odds[m + 1][Math.min(3, k + 1)] += go;
        }
      }
      return odds;
    }
    long bears(int r) {
      boolean pains = takes(0, r);
      long[][] odds = odds(r);
      long all = 0;
      for (int m = 0; m < 12; m++) {
        for (int k = 0; k < 4; k++) {
          long sum = 0;
          for (int i = 0; i < s.s.size(); i++) {
            int S = s.s.get(i);
            if (asks(0, r, m, k, S, pains)) sum += (long) s.q(i, pains) * Math.max(0, S - h.f);
          }
          all += odds[m][k] * sum / 1000000;
        }
      }
      return all;
    }
    long[] standing(int t) {
      int rungs = h.pay.size();
      long[][] odds = new long[rungs][];
      for (int r = 0; r < rungs; r++) odds[r] = odds(r)[12];
      long[] here = new long[rungs];
      here[h.enter] = 1000000;
      for (int y = 0; y < t; y++) {
        long[] then = new long[rungs];
        for (int r = 0; r < rungs; r++) {
          long stays = here[r];
          for (int k = 0; k < 4; k++) {
            long part = here[r] * odds[r][k] / 1000000;
            then[h.next(r, k)] += part;
            stays -= part;
          }
          then[0] += stays;
        }
        here = then;
      }
      return here;
    }
    long paid(int t) {
      long all = 0;
      long[] st = standing(t);
      for (int r = 0; r < st.length; r++) all += st[r] * h.pay.get(r) / 1000;
      return all;
    }
    long askedFor(int t) {
      long all = 0;
      long[] st = standing(t);
      for (int r = 0; r < st.length; r++) all += st[r] * bears(r) / 1000000;
      return all;
    }
  }
  private Way best(int s, int h, int years) { return new Way(sorts.get(s), houses[h], null, years); }
  private Way by(int s, int h, int rule, int years) { return new Way(sorts.get(s), houses[h], rule == -1 ? null : rules.get(rule), years); }
  private static boolean off(int years, int y, int last) { return years < 1 || years > 30 || y < 0 || y > last; }

  int cost(int s, int h, int years, int y, int r) {
    if (noSort(s) || noRung(h, r)) return UNKNOWN;
    if (off(years, y, years)) return OUTSIDE;
    return (int) best(s, h, years).cost(y, r);
  }
  int in(int s, int h, int years, int y, int r, int m, int k, boolean pains) {
    if (noSort(s) || noRung(h, r)) return UNKNOWN;
    if (off(years, y, years - 1) || m < 0 || m > 12 || k < 0 || k > 3) return OUTSIDE;
    return (int) best(s, h, years).in(y, r, m, k, pains);
  }
  int takes(int s, int h, int years, int y, int r) {
    if (noSort(s) || noRung(h, r)) return UNKNOWN;
    if (off(years, y, years - 1)) return OUTSIDE;
    return best(s, h, years).takes(y, r) ? 1 : 0;
  }
  int bar(int s, int h, int years, int y, int r, int m, int k, boolean pains) {
    if (noSort(s) || noRung(h, r)) return UNKNOWN;
    if (off(years, y, years - 1) || m < 0 || m > 11 || k < 0 || k > 3) return OUTSIDE;
    Way w = best(s, h, years);
    for (int S : sorts.get(s).s) if (w.asks(y, r, m, k, S, pains)) return S;
    return -1;
  }
  int fixed(int rule, int s, int h, int years, int y, int r) {
    if (noRule(rule) || noSort(s) || noRung(h, r)) return UNKNOWN;
    if (off(years, y, years)) return OUTSIDE;
    return (int) by(s, h, rule, years).cost(y, r);
  }
  int scrape(int month, int sum, boolean asked) {
    if (month < 0 || month > 11 || sum < 1 || sum > 999) return OUTSIDE;
    for (int[] l : now.life) if (l[0] >= month) return NOT;
    now.life.add(new int[] {month, sum, asked ? 1 : 0});
    return now.life.size();
  }
  int judge(int s, int h, int years, int y, int r) {
    if (noSort(s) || noRung(h, r)) return UNKNOWN;
    if (off(years, y, years - 1)) return OUTSIDE;
    Way w = best(s, h, years);
    int k = 0, i = 0;
    for (int[] l : now.life) {
      if (w.asks(y, r, l[0], k, l[1], false) != (l[2] == 1)) return i;
      k = Math.min(3, k + l[2]);
      i++;
    }
    return -1;
  }

  // ---------------------------------------------------------------- the long run
  int standing(int s, int h, int rule, int years, int t, int r) {
    if (noSort(s) || noRung(h, r) || rule != -1 && noRule(rule)) return UNKNOWN;
    if (off(years, t, 30)) return OUTSIDE;
    return (int) by(s, h, rule, years).standing(t)[r];
  }
  int odds(int s, int h, int rule, int years, int r, int k) {
    if (noSort(s) || noRung(h, r) || rule != -1 && noRule(rule)) return UNKNOWN;
    if (off(years, k, 3)) return OUTSIDE;
    return (int) by(s, h, rule, years).odds(r)[12][k];
  }
  int even(int s, int h, int rule, int years, int t, int what) {
    if (noSort(s) || noHouse(h) || rule != -1 && noRule(rule)) return UNKNOWN;
    if (off(years, t, 30) || what < 0 || what > 2) return OUTSIDE;
    Way w = by(s, h, rule, years);
    return (int) (what == 0 ? w.paid(t) : what == 1 ? w.askedFor(t) : w.paid(t) - w.askedFor(t));
  }
  int year(int r, int k) {
    if (r < 0 || r > 9 || k < 0 || k > 3) return OUTSIDE;
    if (now.years.size() == 8) return FULL;
    now.years.add(new int[] {r, k});
    return now.years.size();
  }
  int clear() {
    int had = now.years.size() + now.life.size();
    now.years.clear();
    now.life.clear();
    return had;
  }
  int think(int s, int h, int years) {
    if (noSort(s) || noHouse(h)) return UNKNOWN;
    if (off(years, 0, 0)) return OUTSIDE;
    for (int[] y : now.years) if (noRung(h, y[0])) return NOT;
    long[] w = new long[sorts.size()];
    java.util.Arrays.fill(w, 100000);
    for (int[] y : now.years) {
      long top = 0;
      for (int i = 0; i < w.length; i++) {
        w[i] = w[i] * best(i, h, years).odds(y[0])[12][y[1]] / 1000000;
        top = Math.max(top, w[i]);
      }
      if (top > 0) for (int i = 0; i < w.length; i++) w[i] = w[i] * 100000 / top;
    }
    long all = 0;
    for (long one : w) all += one;
    return all == 0 ? 0 : (int) (100 * w[s] / all);
  }

  // ---------------------------------------------------------------- what else
  int buy(int s, int h, int years, int y, int r, int k) {
    if (noSort(s) || noRung(h, r)) return UNKNOWN;
    if (off(years, y, years - 1) || k < 1 || k > 3) return OUTSIDE;
    Way w = best(s, h, years);
    return (int) (w.cost(y + 1, houses[h].next(r, k)) - w.cost(y + 1, houses[h].next(r, k - 1)));
  }
  int keepRung(int s, int h, int years, int r) {
    if (noSort(s) || noRung(h, r)) return UNKNOWN;
    if (off(years, 0, 0)) return OUTSIDE;
    return (int) (best(s, h, years).cost(0, r) - new Way(sorts.get(s), houses[h].keeping(r), null, years).cost(0, r));
  }
  int leave(int s, int h, int years, int r) {
    if (noSort(s) || noRung(h, r) || noHouse(1 - h)) return UNKNOWN;
    if (off(years, 0, 0)) return OUTSIDE;
    return best(s, 1 - h, years).cost(0, Math.min(r, houses[1 - h].enter)) < best(s, h, years).cost(0, r) ? 1 : 0;
  }
  int pad(int s, int h, int years, int r, int m, int k, int sum, int z, int v) {
    if (noSort(s) || noRung(h, r)) return UNKNOWN;
    if (off(years, 0, 0) || m < 0 || m > 11 || k < 0 || k > 3 || sum < 1 || sum > 999) return OUTSIDE;
    if (z < 0 || z > 999 || v < 0 || v > 100) return OUTSIDE;
    Way w = best(s, h, years);
    long honest = Math.min(sum, houses[h].f) * 1000L + w.in(0, r, m + 1, Math.min(3, k + 1), false);
    long more = sum * 1000L + w.in(0, r, m + 1, 3, false) - honest;
    return (int) (((100 - v) * (z * 1000L) - v * more) / 100);
  }
  int setting(int h, int years, int least) {
    if (noHouse(h)) return UNKNOWN;
    if (years < 1 || years > 12 || least < -9999999 || least > 9999999) return OUTSIDE;
    int answer = -1, most = -1;
    for (int d = 1; d <= 3; d++) for (int u = 1; u <= 4; u++) for (int f = 0; f <= 20; f += 10) {
      House tried = houses[h].with(d, u, f);
      int pained = 0;
      boolean fine = true;
      for (Sort s : sorts) {
        Way w = new Way(s, tried, null, years);
        for (int r = 0; r < tried.pay.size(); r++) if (w.takes(0, r)) pained++;
        fine &= w.paid(10) - w.askedFor(10) >= least;
      }
      if (fine && pained > most) { most = pained; answer = 100 * d + 10 * u + f / 10; }
    }
    return answer;
  }

  // ---------------------------------------------------------------- lives, images
  int seed(int v) {
    if (v < 0) return OUTSIDE;
    int was = now.seed;
    now = new State(now.life, now.years, v);
    return was;
  }
  int lives(int s, int h, int rule, int n) {
    if (noSort(s) || noHouse(h) || noRule(rule)) return UNKNOWN;
    if (n < 1 || n > 30) return OUTSIDE;
    java.math.BigInteger seed = java.math.BigInteger.valueOf(now.seed);
    int r = houses[h].enter, spent = 0;
    for (int y = 0; y < n; y++) {
      spent += houses[h].pay.get(r);
      int k = 0;
      for (int m = 0; m < 12; m++) {
        seed = seed.multiply(java.math.BigInteger.valueOf(1103515245)).add(java.math.BigInteger.valueOf(12345)).mod(java.math.BigInteger.TWO.pow(31));
        int draw = seed.intValueExact() / 65536 % 1000, q = 0;
        for (int i = 0; i < sorts.get(s).s.size(); i++) {
          q += sorts.get(s).q.get(i);
          if (q <= draw) continue;
          int S = sorts.get(s).s.get(i);
          if (rules.get(rule).asks(r, m, S)) { spent += Math.min(S, houses[h].f); k++; } else spent += S;
          break;
        }
      }
      r = houses[h].next(r, Math.min(k, 3));
    }
    now = new State(now.life, now.years, seed.intValueExact());
    return spent;
  }
  int count(int what) {
    if (what < 0 || what > 4) return OUTSIDE;
    return new int[] {sorts.size(), rules.size(), now.life.size(), now.years.size(), text.length()}[what];
  }
  int keep(int i) {
    if (i != 0 && i != 1) return UNKNOWN;
    images[i] = now.copy();
    return 1;
  }
  int goBack(int i) {
    if (i != 0 && i != 1) return UNKNOWN;
    if (images[i] == null) return NOT;
    now = images[i].copy();
    return 1;
  }
}
