/** A house that covers carts on rungs, and what its people do not ask of it. README.md tells how to use it. */
public final class RungHouse {
    public static final int NONE = -1, UNKNOWN = -1000000001, OUTSIDE = -1000000002, NOT = -1000000003, FULL = -1000000004;

    private static final int HOUSES = 2, SORTS = 4, RULES = 4, IMAGES = 2;
    private static final int RUNGS = 10, SCRAPES = 8, CLAUSES = 6, YEARS_TOLD = 8;
    private static final int MONTHS = 12, MOST_ASKINGS = 3, COUNTS = 4, MOST_YEARS = 30;
    private static final int TEXT_MOST = 300, SORT_TEXT_MOST = 200, RULE_TEXT_MOST = 120;
    private static final int THOUSAND = 1000, MILLION = 1000000, FULL_WEIGHT = 100000;
    private static final int SETTINGS = 36, SETTING_YEARS_MOST = 12, SETTING_EVEN_YEAR = 10, LEAST_EVEN_BOUND = 9999999;

    private final Reader text = new Reader();
    private final House[] houses = new House[HOUSES];
    private final Sort[] sorts = new Sort[SORTS];
    private final Rule[] rules = new Rule[RULES];
    private final Plan[] plans = new Plan[SORTS * HOUSES];
    /** A HOUSE to be read into or changed without harm to those that are told, and a plan to try it or a RULE. */
    private final House trial = new House();
    private final Plan trialPlan;
    private final LongRun longRun = new LongRun();
    private final long[] weights = new long[SORTS];
    private final Memory now = new Memory();
    private final Memory[] images = new Memory[IMAGES];
    private int sortCount = 0;
    private int ruleCount = 0;
    private int latestFaultAt = NONE;

    public RungHouse() {
        for (int h = 0; h < HOUSES; h++) {
            houses[h] = new House();
        }
        for (int s = 0; s < SORTS; s++) {
            sorts[s] = new Sort();
        }
        for (int i = 0; i < SORTS * HOUSES; i++) {
            plans[i] = new Plan(sorts[i / HOUSES], houses[i % HOUSES]);
        }
        trialPlan = new Plan(sorts[0], trial);
        for (int i = 0; i < RULES; i++) {
            rules[i] = new Rule();
        }
        for (int i = 0; i < IMAGES; i++) {
            images[i] = new Memory();
        }
    }

    // ---- houses, sorts

    public int feed(int n, long bytes) {
        if (isOut(n, 1, 8)) {
            return OUTSIDE;
        }
        if (text.length + n > TEXT_MOST) {
            return FULL;
        }
        for (int i = n - 1; i >= 0; i--) {
            text.add((int) (bytes >>> (8 * i)) & 255);
        }
        return text.length;
    }

    public int house(int h) {
        if (isOut(h, 0, HOUSES - 1)) {
            return UNKNOWN;
        }
        trial.readFrom(text);
        int answer = closeText(trial.rungs);
        if (answer >= 0) {
            houses[h].copyFrom(trial);
            for (int s = 0; s < SORTS; s++) {
                plans[s * HOUSES + h].forget();
            }
        }
        return answer;
    }

    public int sort() {
        if (text.length > SORT_TEXT_MOST) {
            return NOT;
        }
        if (sortCount >= SORTS) {
            return FULL;
        }
        sorts[sortCount].readFrom(text);
        int answer = closeText(sortCount);
        if (answer >= 0) {
            sortCount++;
        }
        return answer;
    }

    public int rule() {
        if (text.length > RULE_TEXT_MOST) {
            return NOT;
        }
        if (ruleCount >= RULES) {
            return FULL;
        }
        rules[ruleCount].readFrom(text);
        int answer = closeText(ruleCount);
        if (answer >= 0) {
            ruleCount++;
        }
        return answer;
    }

    public int fault() {
        return latestFaultAt;
    }

    public int told(int h, int what) {
        if (!isHouse(h)) {
            return UNKNOWN;
        }
        switch (what) {
            case 0: return houses[h].rungs;
            case 1: return houses[h].up;
            case 2: return houses[h].down;
            case 3: return houses[h].first;
            case 4: return houses[h].enter;
            case 5: return houses[h].kept;
            default: return OUTSIDE;
        }
    }

    public int pays(int h, int r) {
        return isRung(h, r) ? houses[h].prices[r] : UNKNOWN;
    }

    public int next(int h, int r, int k) {
        if (!isRung(h, r)) {
            return UNKNOWN;
        }
        return isOut(k, 0, MOST_ASKINGS) ? OUTSIDE : houses[h].rungAfter(r, k);
    }

    public int scrapes(int s, int what) {
        if (!isSort(s)) {
            return UNKNOWN;
        }
        if (isOut(what, 0, 3 + 2 * SCRAPES)) {
            return OUTSIDE;
        }
        Sort sort = sorts[s];
        switch (what) {
            case 0: return sort.size;
            case 1: return sort.allChances;
            case 2: return sort.hasPains ? sort.painCost : NONE;
            case 3: return sort.hasPains ? sort.painSpares : NONE;
            default: break;
        }
        int i = (what - 4) % SCRAPES;
        if (i >= sort.size) {
            return NONE;
        }
        return what < 4 + SCRAPES ? sort.sums[i] : sort.chances[i];
    }

    // ---- the best way

    public int cost(int s, int h, int years, int y, int r) {
        if (!isSort(s) || !isRung(h, r)) {
            return UNKNOWN;
        }
        if (isOut(years, 1, MOST_YEARS) || isOut(y, 0, years)) {
            return OUTSIDE;
        }
        return planOf(s, h, years).costWith(years - y, r);
    }

    public int in(int s, int h, int years, int y, int r, int m, int k, boolean pains) {
        if (!isSort(s) || !isRung(h, r)) {
            return UNKNOWN;
        }
        if (isNoYear(years, y) || isOut(m, 0, MONTHS) || isOut(k, 0, MOST_ASKINGS)) {
            return OUTSIDE;
        }
        Plan plan = planOf(s, h, years);
        plan.openYear(years - y, r, pains);
        return plan.inside(m, k);
    }

    public int takes(int s, int h, int years, int y, int r) {
        if (!isSort(s) || !isRung(h, r)) {
            return UNKNOWN;
        }
        if (isNoYear(years, y)) {
            return OUTSIDE;
        }
        return planOf(s, h, years).isPained(years - y, r) ? 1 : 0;
    }

    public int bar(int s, int h, int years, int y, int r, int m, int k, boolean pains) {
        if (!isSort(s) || !isRung(h, r)) {
            return UNKNOWN;
        }
        if (isNoYear(years, y) || isOut(m, 0, MONTHS - 1) || isOut(k, 0, MOST_ASKINGS)) {
            return OUTSIDE;
        }
        Plan plan = planOf(s, h, years);
        plan.openYear(years - y, r, pains);
        return plan.leastAsked(m, k);
    }

    public int fixed(int rule, int s, int h, int years, int y, int r) {
        if (!isRule(rule) || !isSort(s) || !isRung(h, r)) {
            return UNKNOWN;
        }
        if (isOut(years, 1, MOST_YEARS) || isOut(y, 0, years)) {
            return OUTSIDE;
        }
        trialPlan.begin(sorts[s], houses[h], rules[rule]);
        trialPlan.know(years - y);
        return trialPlan.costWith(years - y, r);
    }

    public int scrape(int month, int sum, boolean asked) {
        if (isOut(month, 0, MONTHS - 1) || isOut(sum, 1, 999)) {
            return OUTSIDE;
        }
        if (!now.rises(month)) {
            return NOT;
        }
        now.addScrape(month, sum, asked);
        return now.lifeSize;
    }

    public int judge(int s, int h, int years, int y, int r) {
        if (!isSort(s) || !isRung(h, r)) {
            return UNKNOWN;
        }
        if (isNoYear(years, y)) {
            return OUTSIDE;
        }
        Plan plan = planOf(s, h, years);
        plan.openYear(years - y, r, false);
        int k = 0;
        for (int i = 0; i < now.lifeSize; i++) {
            if (plan.isAsked(now.months[i], k, now.sums[i]) != now.asked[i]) {
                return i;
            }
            if (now.asked[i]) {
                k = oneMore(k);
            }
        }
        return NONE;
    }

    // ---- the long run

    public int standing(int s, int h, int rule, int years, int t, int r) {
        if (!isSort(s) || !isRung(h, r) || !isWay(rule)) {
            return UNKNOWN;
        }
        if (isOut(years, 1, MOST_YEARS) || isOut(t, 0, MOST_YEARS)) {
            return OUTSIDE;
        }
        longRun.reckon(wayOf(s, h, rule, years), years);
        longRun.goTo(houses[h], t);
        return longRun.people[r];
    }

    public int odds(int s, int h, int rule, int years, int r, int k) {
        if (!isSort(s) || !isRung(h, r) || !isWay(rule)) {
            return UNKNOWN;
        }
        if (isOut(years, 1, MOST_YEARS) || isOut(k, 0, MOST_ASKINGS)) {
            return OUTSIDE;
        }
        longRun.reckonRung(wayOf(s, h, rule, years), years, r);
        return longRun.oddsOf(r, k);
    }

    public int even(int s, int h, int rule, int years, int t, int what) {
        if (!isSort(s) || !isHouse(h) || !isWay(rule)) {
            return UNKNOWN;
        }
        if (isOut(years, 1, MOST_YEARS) || isOut(t, 0, MOST_YEARS) || isOut(what, 0, 2)) {
            return OUTSIDE;
        }
        longRun.reckon(wayOf(s, h, rule, years), years);
        longRun.goTo(houses[h], t);
        int paid = longRun.paid(houses[h]);
        int askedFor = longRun.askedFor();
        return what == 0 ? paid : what == 1 ? askedFor : paid - askedFor;
    }

    public int year(int r, int k) {
        if (isOut(r, 0, RUNGS - 1) || isOut(k, 0, MOST_ASKINGS)) {
            return OUTSIDE;
        }
        if (now.yearsSize >= YEARS_TOLD) {
            return FULL;
        }
        now.addYear(r, k);
        return now.yearsSize;
    }

    public int clear() {
        int had = now.lifeSize + now.yearsSize;
        now.lifeSize = 0;
        now.yearsSize = 0;
        return had;
    }

    public int think(int s, int h, int years) {
        if (!isSort(s) || !isHouse(h)) {
            return UNKNOWN;
        }
        if (isOut(years, 1, MOST_YEARS)) {
            return OUTSIDE;
        }
        if (now.highestRung() >= houses[h].rungs) {
            return NOT;
        }
        weighSorts(h, years);
        long all = 0;
        for (int i = 0; i < sortCount; i++) {
            all += weights[i];
        }
        return all > 0 ? (int) (100 * weights[s] / all) : 0;
    }

    // ---- what else one may do

    public int buy(int s, int h, int years, int y, int r, int k) {
        if (!isSort(s) || !isRung(h, r)) {
            return UNKNOWN;
        }
        if (isNoYear(years, y) || isOut(k, 1, MOST_ASKINGS)) {
            return OUTSIDE;
        }
        Plan plan = planOf(s, h, years);
        int left = years - y - 1;
        return plan.costWith(left, houses[h].rungAfter(r, k)) - plan.costWith(left, houses[h].rungAfter(r, k - 1));
    }

    public int keepRung(int s, int h, int years, int r) {
        if (!isSort(s) || !isRung(h, r)) {
            return UNKNOWN;
        }
        if (isOut(years, 1, MOST_YEARS)) {
            return OUTSIDE;
        }
        if (houses[h].isKept(r)) {
            return 0;
        }
        trial.copyFrom(houses[h]);
        trial.kept = trial.kept | 1 << r;
        trialPlan.begin(sorts[s], trial, null);
        trialPlan.know(years);
        return planOf(s, h, years).costWith(years, r) - trialPlan.costWith(years, r);
    }

    public int leave(int s, int h, int years, int r) {
        if (!isSort(s) || !isRung(h, r) || !isHouse(1 - h)) {
            return UNKNOWN;
        }
        if (isOut(years, 1, MOST_YEARS)) {
            return OUTSIDE;
        }
        int there = Math.min(r, houses[1 - h].enter);
        return planOf(s, 1 - h, years).costWith(years, there) < planOf(s, h, years).costWith(years, r) ? 1 : 0;
    }

    public int pad(int s, int h, int years, int r, int m, int k, int sum, int z, int v) {
        if (!isSort(s) || !isRung(h, r)) {
            return UNKNOWN;
        }
        if (isOut(years, 1, MOST_YEARS) || isOut(m, 0, MONTHS - 1) || isOut(k, 0, MOST_ASKINGS)) {
            return OUTSIDE;
        }
        if (isOut(sum, 1, 999) || isOut(z, 0, 999) || isOut(v, 0, 100)) {
            return OUTSIDE;
        }
        Plan plan = planOf(s, h, years);
        plan.openYear(years, r, false);
        long honest = houses[h].bears(sum) * THOUSAND + plan.inside(m + 1, oneMore(k));
        long seen = sum * THOUSAND + plan.inside(m + 1, MOST_ASKINGS);
        return (int) (((100L - v) * z * THOUSAND - v * (seen - honest)) / 100);
    }

    public int setting(int h, int years, int least) {
        if (!isHouse(h)) {
            return UNKNOWN;
        }
        if (isOut(years, 1, SETTING_YEARS_MOST) || isOut(least, -LEAST_EVEN_BOUND, LEAST_EVEN_BOUND)) {
            return OUTSIDE;
        }
        trial.copyFrom(houses[h]);
        int most = NONE;
        int answer = NONE;
        for (int i = 0; i < SETTINGS; i++) {
            trial.up = 1 + i / 12;
            trial.down = 1 + i / 3 % 4;
            trial.first = i % 3 * 10;
            int pained = painedTrial(years, least);
            if (pained > most) {
                most = pained;
                answer = 100 * trial.up + 10 * trial.down + trial.first / 10;
            }
        }
        return answer;
    }

    // ---- lives, images

    public int seed(int v) {
        if (v < 0) {
            return OUTSIDE;
        }
        int was = now.drawSeed;
        now.drawSeed = v;
        return was;
    }

    public int lives(int s, int h, int rule, int n) {
        if (!isSort(s) || !isHouse(h) || !isRule(rule)) {
            return UNKNOWN;
        }
        if (isOut(n, 1, MOST_YEARS)) {
            return OUTSIDE;
        }
        House house = houses[h];
        int r = house.enter;
        int spent = 0;
        for (int y = 0; y < n; y++) {
            spent += house.prices[r];
            int k = 0;
            for (int m = 0; m < MONTHS; m++) {
                int sum = sorts[s].sumDrawn(now.draw(THOUSAND));
                boolean asked = sum > 0 && sum >= rules[rule].barOn(r, m);
                spent += asked ? house.bears(sum) : sum;
                k = asked ? oneMore(k) : k;
            }
            r = house.rungAfter(r, k);
        }
        return spent;
    }

    public int count(int what) {
        switch (what) {
            case 0: return sortCount;
            case 1: return ruleCount;
            case 2: return now.lifeSize;
            case 3: return now.yearsSize;
            case 4: return text.length;
            default: return OUTSIDE;
        }
    }

    public int keep(int i) {
        if (isOut(i, 0, IMAGES - 1)) {
            return UNKNOWN;
        }
        images[i].copyFrom(now);
        images[i].isKept = true;
        return 1;
    }

    public int goBack(int i) {
        if (isOut(i, 0, IMAGES - 1)) {
            return UNKNOWN;
        }
        if (!images[i].isKept) {
            return NOT;
        }
        now.copyFrom(images[i]);
        return 1;
    }

    // ---- what the calls share

    private static boolean isOut(int value, int least, int most) {
        return value < least || value > most;
    }

    private static boolean isNoYear(int years, int y) {
        return isOut(years, 1, MOST_YEARS) || isOut(y, 0, years - 1);
    }

    private static int oneMore(int k) {
        return k < MOST_ASKINGS ? k + 1 : MOST_ASKINGS;
    }

    private boolean isHouse(int h) {
        return !isOut(h, 0, HOUSES - 1) && houses[h].rungs > 0;
    }

    private boolean isRung(int h, int r) {
        return isHouse(h) && !isOut(r, 0, houses[h].rungs - 1);
    }

    private boolean isSort(int s) {
        return !isOut(s, 0, sortCount - 1);
    }

    private boolean isRule(int rule) {
        return !isOut(rule, 0, ruleCount - 1);
    }

    private boolean isWay(int rule) {
        return rule == NONE || isRule(rule);
    }

    private int closeText(int answer) {
        text.length = 0;
        latestFaultAt = text.faultAt;
        return text.fault == 0 ? answer : -10 - text.fault;
    }

    private Plan planOf(int s, int h, int years) {
        Plan plan = plans[s * HOUSES + h];
        plan.know(years);
        return plan;
    }

    private Plan wayOf(int s, int h, int rule, int years) {
        if (rule == NONE) {
            return planOf(s, h, years);
        }
        trialPlan.begin(sorts[s], houses[h], rules[rule]);
        return trialPlan;
    }

    private void weighSorts(int h, int years) {
        for (int s = 0; s < sortCount; s++) {
            weights[s] = FULL_WEIGHT;
        }
        for (int i = 0; i < now.yearsSize; i++) {
            long greatest = 0;
            for (int s = 0; s < sortCount; s++) {
                longRun.reckonRung(planOf(s, h, years), years, now.rungs[i]);
                weights[s] = weights[s] * longRun.oddsOf(now.rungs[i], now.askings[i]) / MILLION;
                greatest = Math.max(greatest, weights[s]);
            }
            for (int s = 0; s < sortCount && greatest > 0; s++) {
                weights[s] = weights[s] * FULL_WEIGHT / greatest;
            }
        }
    }

    /** On how many RUNGS of the trial HOUSE pains are taken, all SORTS together; NONE, if it gets too little of one. */
    private int painedTrial(int years, int least) {
        int pained = 0;
        for (int s = 0; s < sortCount; s++) {
            trialPlan.begin(sorts[s], trial, null);
            trialPlan.know(years);
            longRun.reckon(trialPlan, years);
            longRun.goTo(trial, SETTING_EVEN_YEAR);
            if (longRun.paid(trial) - longRun.askedFor() < least) {
                return NONE;
            }
            for (int r = 0; r < trial.rungs; r++) {
                pained += trialPlan.isPained(years, r) ? 1 : 0;
            }
        }
        return pained;
    }

    /** THE TEXT, read word by word; the first FAULT found is kept, as the text is read from its beginning. */
    private static final class Reader {
        static final int END = 0, WORD = 1, NUMBER = 2, STOP = 3, OTHER = 4;

        private final int[] bytes = new int[TEXT_MOST];
        int length = 0;
        int fault = 0;
        int faultAt = NONE;
        int kind = END;
        int start = 0;
        private int end = 0;
        private int figures = 0;
        private int value = 0;

        void add(int b) {
            if (length < TEXT_MOST) {
                bytes[length] = b;
                length++;
            }
        }

        void open() {
            fault = 0;
            faultAt = NONE;
            end = 0;
            step();
        }

        boolean goesOn() {
            return fault == 0 && kind != END;
        }

        void fail(int number, int where) {
            if (fault == 0) {
                fault = number;
                faultAt = where;
            }
        }

        void step() {
            while (end < length && bytes[end] == ' ') {
                end++;
            }
            start = end;
            if (end >= length) {
                kind = END;
            } else if (isLetter(bytes[end])) {
                kind = WORD;
                passLetters();
            } else if (isFigure(bytes[end])) {
                kind = NUMBER;
                passFigures();
            } else {
                kind = bytes[end] == ';' ? STOP : OTHER;
                end++;
            }
        }

        boolean isWord(String word) {
            if (kind != WORD || end - start != word.length()) {
                return false;
            }
            for (int i = 0; i < word.length(); i++) {
                if (bytes[start + i] != word.charAt(i)) {
                    return false;
                }
            }
            return true;
        }

        int number(int least, int most) {
            if (kind != NUMBER) {
                fail(1, start);
            } else if (figures > 3 || isOut(value, least, most)) {
                fail(2, start);
            }
            if (fault != 0) {
                return least;
            }
            int told = value;
            step();
            return told;
        }

        void closeClause() {
            if (kind != STOP) {
                fail(1, start);
            }
            if (fault == 0) {
                step();
            }
        }

        private void passLetters() {
            while (end < length && isLetter(bytes[end])) {
                end++;
            }
        }

        private void passFigures() {
            figures = 0;
            value = 0;
            while (end < length && isFigure(bytes[end])) {
                figures++;
                // A text may have 300 figures: those beyond the third are a FAULT and must not run over.
                value = figures > 3 ? value : value * 10 + bytes[end] - '0';
                end++;
            }
        }

        private static boolean isLetter(int b) {
            return b >= 'a' && b <= 'z';
        }

        private static boolean isFigure(int b) {
            return b >= '0' && b <= '9';
        }
    }

    private static final class House {
        private static final int UP = 0, DOWN = 1, FIRST = 2, ENTER = 3;

        final int[] prices = new int[RUNGS];
        int rungs = 0;
        int kept = 0;
        int up = 1;
        int down = 3;
        int first = 0;
        int enter = 0;

        void copyFrom(House other) {
            for (int r = 0; r < RUNGS; r++) {
                prices[r] = other.prices[r];
            }
            rungs = other.rungs;
            kept = other.kept;
            up = other.up;
            down = other.down;
            first = other.first;
            enter = other.enter;
        }

        boolean isKept(int r) {
            return (kept >> r & 1) != 0;
        }

        int bears(int sum) {
            return sum < first ? sum : first;
        }

        int rungAfter(int r, int k) {
            if (k == 0) {
                return Math.min(r + up, rungs - 1);
            }
            return Math.max(r - down * (isKept(r) ? k - 1 : k), 0);
        }

        void readFrom(Reader text) {
            rungs = 0;
            kept = 0;
            up = 1;
            down = 3;
            first = 0;
            enter = 0;
            int seen = 0;
            text.open();
            for (int i = 0; i < TEXT_MOST && text.goesOn(); i++) {
                if (text.isWord("rung")) {
                    readRung(text);
                } else {
                    seen = readStep(text, seen);
                }
            }
            if (rungs == 0 || enter >= rungs) {
                text.fail(5, text.length);
            }
        }

        private void readRung(Reader text) {
            if (rungs >= RUNGS) {
                text.fail(3, text.start);
                return;
            }
            text.step();
            prices[rungs] = text.number(0, 999);
            if (text.isWord("kept")) {
                kept = kept | 1 << rungs;
                text.step();
            }
            text.closeClause();
            rungs++;
        }

        private int readStep(Reader text, int seen) {
            int which = stepTold(text);
            if (which == NONE) {
                text.fail(1, text.start);
                return seen;
            }
            if ((seen >> which & 1) != 0) {
                text.fail(3, text.start);
                return seen;
            }
            text.step();
            int value = text.number(which == UP || which == DOWN ? 1 : 0, which == FIRST ? 99 : 9);
            text.closeClause();
            setStep(which, value);
            return seen | 1 << which;
        }

        private static int stepTold(Reader text) {
            if (text.isWord("up")) {
                return UP;
            }
            if (text.isWord("down")) {
                return DOWN;
            }
            if (text.isWord("first")) {
                return FIRST;
            }
            return text.isWord("enter") ? ENTER : NONE;
        }

        private void setStep(int which, int value) {
            switch (which) {
                case UP: up = value; break;
                case DOWN: down = value; break;
                case FIRST: first = value; break;
                default: enter = value; break;
            }
        }
    }

    private static final class Sort {
        final int[] sums = new int[SCRAPES];
        final int[] chances = new int[SCRAPES];
        private final int[] sparedChances = new int[SCRAPES];
        int size = 0;
        int allChances = 0;
        boolean hasPains = false;
        int painCost = 0;
        int painSpares = 0;

        int chance(int i, boolean pains) {
            return pains ? sparedChances[i] : chances[i];
        }

        /** The sum of the scrape that a DRAW below a thousand brings; 0 if it brings none. */
        int sumDrawn(int draw) {
            int soFar = 0;
            for (int i = 0; i < size; i++) {
                soFar += chances[i];
                if (soFar > draw) {
                    return sums[i];
                }
            }
            return 0;
        }

        void readFrom(Reader text) {
            size = 0;
            allChances = 0;
            hasPains = false;
            painCost = 0;
            painSpares = 0;
            text.open();
            for (int i = 0; i < TEXT_MOST && text.goesOn(); i++) {
                if (text.isWord("scrape")) {
                    readScrape(text);
                } else if (text.isWord("pains")) {
                    readPains(text);
                } else {
                    text.fail(1, text.start);
                }
            }
            if (size == 0) {
                text.fail(5, text.length);
            }
            spare();
        }

        private void readScrape(Reader text) {
            if (size >= SCRAPES) {
                text.fail(3, text.start);
                return;
            }
            text.step();
            sums[size] = text.number(size > 0 ? sums[size - 1] + 1 : 1, 999);
            int where = text.start;
            chances[size] = text.number(1, 999);
            allChances += chances[size];
            if (allChances > THOUSAND) {
                text.fail(4, where);
            }
            text.closeClause();
            size++;
        }

        private void readPains(Reader text) {
            if (hasPains) {
                text.fail(3, text.start);
                return;
            }
            text.step();
            painCost = text.number(0, 999);
            painSpares = text.number(0, 100);
            text.closeClause();
            hasPains = true;
        }

        private void spare() {
            for (int i = 0; i < size; i++) {
                sparedChances[i] = chances[i] * (100 - painSpares) / 100;
            }
        }
    }

    private static final class Rule {
        private final int[] bars = new int[CLAUSES];
        private final int[] firstRungs = new int[CLAUSES];
        private final int[] lastRungs = new int[CLAUSES];
        private final int[] firstMonths = new int[CLAUSES];
        private final int[] lastMonths = new int[CLAUSES];
        private int size = 0;

        /** The least sum that is asked for; 0 where no clause is so, as all is asked for there. */
        int barOn(int r, int m) {
            for (int i = 0; i < size; i++) {
                boolean isOfRung = r >= firstRungs[i] && r <= lastRungs[i];
                if (isOfRung && m >= firstMonths[i] && m <= lastMonths[i]) {
                    return bars[i];
                }
            }
            return 0;
        }

        void readFrom(Reader text) {
            size = 0;
            text.open();
            for (int i = 0; i < TEXT_MOST && text.goesOn(); i++) {
                if (!text.isWord("bar")) {
                    text.fail(1, text.start);
                } else if (size >= CLAUSES) {
                    text.fail(3, text.start);
                } else {
                    readBar(text);
                }
            }
        }

        private void readBar(Reader text) {
            text.step();
            bars[size] = text.number(0, 999);
            firstRungs[size] = 0;
            lastRungs[size] = RUNGS - 1;
            firstMonths[size] = 0;
            lastMonths[size] = MONTHS - 1;
            if (text.isWord("rungs")) {
                text.step();
                firstRungs[size] = text.number(0, RUNGS - 1);
                lastRungs[size] = text.number(firstRungs[size], RUNGS - 1);
            }
            if (text.isWord("months")) {
                text.step();
                firstMonths[size] = text.number(0, MONTHS - 1);
                lastMonths[size] = text.number(firstMonths[size], MONTHS - 1);
            }
            text.closeClause();
            size++;
        }
    }

    /**
     * What the years cost a SORT in a HOUSE, by THE BEST WAY or by a RULE. As all is 0 behind the last year,
     * only the years that are left count, so what is known of some of them serves every number of years.
     * Asking spares the more at once the greater a scrape is, and costs the same later for each: so there is a bar,
     * and the scrapes asked for are all from some one on, by THE BEST WAY as by a RULE.
     */
    private static final class Plan {
        private Sort sort;
        House house;
        /** null: THE BEST WAY */
        Rule rule = null;
        private final int[] costs = new int[(MOST_YEARS + 1) * RUNGS];
        private final int[] painedRungs = new int[MOST_YEARS + 1];
        private int known = 0;
        private final int[] table = new int[(MONTHS + 1) * COUNTS];
        /** The first scrape asked for, by MONTH and ASKINGS; as many as there are, if none is. */
        private final int[] firstAsked = new int[MONTHS * COUNTS];
        /** What asking for a scrape spares at once; the chances, and what the house bears a MONTH, of it and all behind it. */
        private final int[] spared = new int[SCRAPES];
        private final int[] chanceFrom = new int[SCRAPES + 1];
        private final int[] houseBearsFrom = new int[SCRAPES + 1];
        private int scrapesOfMonth = 0;
        private int rung = 0;

        Plan(Sort ofSort, House inHouse) {
            sort = ofSort;
            house = inHouse;
        }

        void begin(Sort ofSort, House inHouse, Rule byRule) {
            sort = ofSort;
            house = inHouse;
            rule = byRule;
            known = 0;
        }

        void forget() {
            known = 0;
        }

        void know(int left) {
            for (int n = known + 1; n <= left && n <= MOST_YEARS; n++) {
                for (int r = 0; r < house.rungs; r++) {
                    reckonCost(n, r);
                }
                known = n;
            }
        }

        int costWith(int left, int r) {
            return costs[left * RUNGS + r];
        }

        boolean isPained(int left, int r) {
            return (painedRungs[left] >> r & 1) != 0;
        }

        /** Takes a year on a RUNG in hand, of which all that stands below tells; the years behind it must be known. */
        void openYear(int left, int r, boolean withPains) {
            rung = r;
            sumScrapes(withPains && sort.hasPains);
            for (int k = 0; k < COUNTS; k++) {
                table[MONTHS * COUNTS + k] = costs[(left - 1) * RUNGS + house.rungAfter(r, k)];
            }
            for (int m = MONTHS - 1; m >= 0; m--) {
                for (int k = 0; k < COUNTS; k++) {
                    reckonMonth(m, k);
                }
            }
        }

        int inside(int m, int k) {
            return table[m * COUNTS + k];
        }

        boolean isAsked(int m, int k, int sum) {
            return (sum - house.bears(sum)) * THOUSAND > costsLater(m, k);
        }

        int leastAsked(int m, int k) {
            int i = firstAsked[m * COUNTS + k];
            return i < sort.size ? sort.sums[i] : NONE;
        }

        int chanceAsked(int m, int k) {
            return chanceFrom[firstAsked[m * COUNTS + k]];
        }

        int houseBears(int m, int k) {
            return houseBearsFrom[firstAsked[m * COUNTS + k]];
        }

        private void reckonCost(int left, int r) {
            openYear(left, r, false);
            int least = inside(0, 0);
            boolean pained = false;
            if (sort.hasPains && rule == null) {
                openYear(left, r, true);
                int painedCost = inside(0, 0) + sort.painCost * THOUSAND;
                pained = painedCost < least;
                least = pained ? painedCost : least;
            }
            costs[left * RUNGS + r] = house.prices[r] * THOUSAND + least;
            painedRungs[left] = painedRungs[left] & ~(1 << r) | (pained ? 1 << r : 0);
        }

        private void sumScrapes(boolean pains) {
            scrapesOfMonth = 0;
            chanceFrom[sort.size] = 0;
            houseBearsFrom[sort.size] = 0;
            for (int i = sort.size - 1; i >= 0; i--) {
                int chance = sort.chance(i, pains);
                int borneByHouse = sort.sums[i] - house.bears(sort.sums[i]);
                spared[i] = borneByHouse * THOUSAND;
                chanceFrom[i] = chanceFrom[i + 1] + chance;
                houseBearsFrom[i] = houseBearsFrom[i + 1] + chance * borneByHouse;
                scrapesOfMonth += chance * sort.sums[i];
            }
        }

        /** What one asking more in a MONTH costs behind it: nothing, where no more are counted. */
        private int costsLater(int m, int k) {
            return k < MOST_ASKINGS ? table[(m + 1) * COUNTS + k + 1] - table[(m + 1) * COUNTS + k] : 0;
        }

        private void reckonMonth(int m, int k) {
            int later = costsLater(m, k);
            int i = 0;
            if (rule == null) {
                while (i < sort.size && spared[i] <= later) {
                    i++;
                }
            } else {
                int bar = rule.barOn(rung, m);
                while (i < sort.size && sort.sums[i] < bar) {
                    i++;
                }
            }
            firstAsked[m * COUNTS + k] = i;
            // The sum over scrapes, and none, with what they have in common taken together; it is cut once, as a whole.
            long whole = (long) inside(m + 1, k) + scrapesOfMonth - houseBearsFrom[i];
            table[m * COUNTS + k] = (int) ((whole * THOUSAND + (long) chanceFrom[i] * later) / THOUSAND);
        }
    }

    /** A MILLION of a SORT, year by year. */
    private static final class LongRun {
        final int[] people = new int[RUNGS];
        private final int[] coming = new int[RUNGS];
        private final int[] oddsByRung = new int[RUNGS * COUNTS];
        private final int[] houseBearsByRung = new int[RUNGS];
        private final int[] askers = new int[COUNTS];

        void reckon(Plan plan, int years) {
            for (int r = 0; r < RUNGS; r++) {
                houseBearsByRung[r] = 0;
            }
            for (int r = 0; r < plan.house.rungs; r++) {
                reckonRung(plan, years, r);
            }
        }

        void reckonRung(Plan plan, int years, int r) {
            if (plan.rule == null) {
                plan.openYear(years, r, plan.isPained(years, r));
            } else {
                // A RULE asks alike whatever the years behind cost, so that none need be known.
                plan.openYear(1, r, false);
            }
            for (int k = 0; k < COUNTS; k++) {
                askers[k] = k == 0 ? MILLION : 0;
            }
            houseBearsByRung[r] = 0;
            for (int m = 0; m < MONTHS; m++) {
                houseBearsByRung[r] += passMonth(plan, m);
            }
            for (int k = 0; k < COUNTS; k++) {
                oddsByRung[r * COUNTS + k] = askers[k];
            }
        }

        int oddsOf(int r, int k) {
            return oddsByRung[r * COUNTS + k];
        }

        void goTo(House house, int t) {
            for (int r = 0; r < RUNGS; r++) {
                people[r] = r == house.enter ? MILLION : 0;
            }
            for (int y = 0; y < t; y++) {
                passYear(house);
            }
        }

        int paid(House house) {
            int all = 0;
            for (int r = 0; r < house.rungs; r++) {
                all += (int) ((long) people[r] * house.prices[r] / THOUSAND);
            }
            return all;
        }

        int askedFor() {
            int all = 0;
            for (int r = 0; r < RUNGS; r++) {
                all += (int) ((long) people[r] * houseBearsByRung[r] / MILLION);
            }
            return all;
        }

        /** What the house bears in the MONTH. The most ASKINGS come first, so that nobody goes on twice in it. */
        private int passMonth(Plan plan, int m) {
            int borne = 0;
            for (int k = MOST_ASKINGS; k >= 0; k--) {
                borne += (int) ((long) askers[k] * plan.houseBears(m, k) / MILLION);
                int going = (int) ((long) askers[k] * plan.chanceAsked(m, k) / THOUSAND);
                askers[k] -= going;
                askers[oneMore(k)] += going;
            }
            return borne;
        }

        private void passYear(House house) {
            for (int r = 0; r < RUNGS; r++) {
                coming[r] = 0;
            }
            int lost = MILLION;
            for (int r = 0; r < house.rungs; r++) {
                for (int k = 0; k < COUNTS; k++) {
                    int part = (int) ((long) people[r] * oddsOf(r, k) / MILLION);
                    coming[house.rungAfter(r, k)] += part;
                    lost -= part;
                }
            }
            coming[0] += lost;
            for (int r = 0; r < RUNGS; r++) {
                people[r] = coming[r];
            }
        }
    }

    /** What an IMAGE keeps: THE LIFE, THE YEARS, THE SEED. */
    private static final class Memory {
        final int[] months = new int[MONTHS];
        final int[] sums = new int[MONTHS];
        final boolean[] asked = new boolean[MONTHS];
        int lifeSize = 0;
        final int[] rungs = new int[YEARS_TOLD];
        final int[] askings = new int[YEARS_TOLD];
        int yearsSize = 0;
        int drawSeed = 0;
        boolean isKept = false;

        boolean rises(int month) {
            // The MONTHS of a LIFE rise, so that it never has more than twelve scrapes.
            return lifeSize == 0 || lifeSize < MONTHS && month > months[lifeSize - 1];
        }

        void addScrape(int month, int sum, boolean isAsked) {
            if (lifeSize < MONTHS) {
                months[lifeSize] = month;
                sums[lifeSize] = sum;
                asked[lifeSize] = isAsked;
                lifeSize++;
            }
        }

        void addYear(int r, int k) {
            if (yearsSize < YEARS_TOLD) {
                rungs[yearsSize] = r;
                askings[yearsSize] = k;
                yearsSize++;
            }
        }

        int highestRung() {
            int highest = NONE;
            for (int i = 0; i < yearsSize; i++) {
                highest = Math.max(highest, rungs[i]);
            }
            return highest;
        }

        int draw(int n) {
            drawSeed = (int) (drawSeed * 1103515245L + 12345L & 2147483647L);
            return n > 0 ? drawSeed / 65536 % n : 0;
        }

        void copyFrom(Memory other) {
            for (int i = 0; i < MONTHS; i++) {
                months[i] = other.months[i];
                sums[i] = other.sums[i];
                asked[i] = other.asked[i];
            }
            lifeSize = other.lifeSize;
            for (int i = 0; i < YEARS_TOLD; i++) {
                rungs[i] = other.rungs[i];
                askings[i] = other.askings[i];
            }
            yearsSize = other.yearsSize;
            drawSeed = other.drawSeed;
        }
    }
}
