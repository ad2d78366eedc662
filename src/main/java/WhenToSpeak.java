/**
 * When to speak: what is seen of people at work, things to tell them, ways to
 * tell, laws of each of them, the best plan of a few steps, and what came of it.
 * Words in capitals are those of the document's part "Terms".
 */
public final class WhenToSpeak {
    public static final int NONE = -1, UNKNOWN = -1001, OUTSIDE = -1002, NOT = -1003, FULL = -1004;

    private static final int PERSONS = 4;
    private static final int STATES = 4;
    private static final int SIGNS = 4;
    private static final int WAYS = 4;
    private static final int LAST_TICK = 60;
    private static final int FARTHEST = 8;
    private static final int LOOKED_BACK = 6;
    private static final int MILLION = 1000000;

    private static final int MOST_THINGS = 10;
    private static final int MOST_SAYINGS = 40;
    private static final int MOST_BYTES = 160;
    private static final int MOST_CLAUSES = 8;
    private static final int MOST_DEALT = 30;

    private static final int MUST = 0;
    private static final int SEAM = 2;
    private static final int TWO = 3;

    private static final int WAITING = 0;
    private static final int TOLD = 1;
    private static final int DEAD = 2;
    private static final int LATE = 3;

    private static final int LOOKED_AT = 1;
    private static final int WIPED = 3;

    private static final int PLAN_STEPS = 6;
    private static final int PLAN_THINGS = 6;
    private static final int PLAN_SETS = 1 << PLAN_THINGS;
    private static final int PLAN_NODES = 1 << PLAN_STEPS;
    private static final int MUST_BONUS = 2000;
    private static final int PLAN_TICKS = LAST_TICK + PLAN_STEPS;

    private final Work work = new Work();
    private final Ways ways = new Ways();
    private final Book book = new Book();
    private final LawText lawText = new LawText();
    private final Laws[] lawsOf = new Laws[PERSONS];
    private final Gate gate = new Gate();
    private final Planner planner = new Planner(work, ways, book);
    private final Trial trial = new Trial(work, ways, book);
    private final int[] saidIn = new int[PLAN_TICKS];
    private Laws spareLaws = new Laws();
    private int now;

    public WhenToSpeak() {
        for (int p = 0; p < PERSONS; p++) {
            lawsOf[p] = new Laws();
        }
    }

    // ---- work, signs

    public int move(int i, int j, int v) {
        if (!isState(i) || !isState(j) || !isOften(v)) {
            return OUTSIDE;
        }
        return exchange(work.next[i], j, v);
    }

    public int shows(int i, int s, int v) {
        if (!isState(i) || !within(s, 0, SIGNS - 1) || !isOften(v)) {
            return OUTSIDE;
        }
        return exchange(work.shown[i], s, v);
    }

    public int begins(int i, int v) {
        if (!isState(i) || !isOften(v)) {
            return OUTSIDE;
        }
        return exchange(work.first, i, v);
    }

    public int seams(int set) {
        if (!within(set, 0, (1 << STATES) - 1)) {
            return OUTSIDE;
        }
        int was = work.seamStates;
        work.seamStates = set;
        return was;
    }

    public int sign(int p, int s) {
        if (!isPerson(p)) {
            return UNKNOWN;
        }
        if (!within(s, NONE, SIGNS - 1)) {
            return OUTSIDE;
        }
        exchange(work.signs[p], now, s);
        return 1;
    }

    public int go(int n) {
        if (!within(n, 0, 20)) {
            return OUTSIDE;
        }
        if (now + n > LAST_TICK) {
            return NOT;
        }
        now += n;
        return now;
    }

    public int fits(int p, int t) {
        if (!isPerson(p)) {
            return UNKNOWN;
        }
        if (!within(t, 0, now)) {
            return OUTSIDE;
        }
        return work.fittingRows(p, t);
    }

    public int odds(int p, int i, int k) {
        if (!isPerson(p)) {
            return UNKNOWN;
        }
        if (!isState(i) || !isAhead(k)) {
            return OUTSIDE;
        }
        work.lookAhead(p, now, k);
        return work.ahead[k][i];
    }

    public int seam(int p, int k) {
        if (!isPerson(p)) {
            return UNKNOWN;
        }
        if (!isAhead(k)) {
            return OUTSIDE;
        }
        work.lookAhead(p, now, k);
        return work.seamOdds(k);
    }

    public int until(int p, int h) {
        if (!isPerson(p)) {
            return UNKNOWN;
        }
        if (!within(h, 0, MILLION)) {
            return OUTSIDE;
        }
        work.lookAhead(p, now, FARTHEST);
        for (int k = 0; k <= FARTHEST; k++) {
            if (work.seamOdds(k) >= h) {
                return k;
            }
        }
        return NONE;
    }

    // ---- things, ways

    public int thing(int persons, int kind, int matter, int from, int worth, int less, int clock) {
        if (!within(persons, 1, (1 << PERSONS) - 1)) {
            return UNKNOWN;
        }
        if (!within(kind, 0, 3) || !within(matter, 0, 5) || !within(from, 0, 9)) {
            return OUTSIDE;
        }
        if (!within(worth, 0, 999) || !within(less, 0, 99) || !within(clock, now, LAST_TICK)) {
            return OUTSIDE;
        }
        if (book.thingCount >= MOST_THINGS) {
            return FULL;
        }
        Thing made = book.things[book.thingCount];
        made.persons = persons;
        made.kind = kind;
        made.matter = matter;
        made.from = from;
        made.worth = worth;
        made.less = less;
        made.clock = clock;
        made.tick = now;
        book.thingCount++;
        return book.thingCount - 1;
    }

    public int dead(int t) {
        if (!book.hasThing(t)) {
            return UNKNOWN;
        }
        if (book.things[t].takenBack) {
            return NOT;
        }
        book.things[t].takenBack = true;
        return book.sayingsWith(t);
    }

    public int told(int t, int what) {
        if (!book.hasThing(t)) {
            return UNKNOWN;
        }
        Thing asked = book.things[t];
        switch (what) {
            case 0: return asked.persons;
            case 1: return asked.kind;
            case 2: return asked.matter;
            case 3: return asked.from;
            case 4: return asked.clock;
            case 5: return book.standing(t, now);
            case 6: return book.sayingsWith(t);
            case 7: return asked.tick;
            default: return OUTSIDE;
        }
    }

    public int value(int t, int p, int k) {
        if (!book.hasThing(t) || !isPerson(p)) {
            return UNKNOWN;
        }
        if (!isAhead(k)) {
            return OUTSIDE;
        }
        work.lookAhead(p, now, k);
        return book.things[t].valueIn(now + k, work.seamOdds(k));
    }

    public int cost(int way, int state, int v) {
        if (!isWay(way) || !isState(state) || !within(v, 0, 999)) {
            return OUTSIDE;
        }
        return exchange(ways.costs[way], state, v);
    }

    public int seen(int way, int v) {
        if (!isWay(way) || !within(v, 0, 100)) {
            return OUTSIDE;
        }
        return exchange(ways.seenOdds, way, v);
    }

    public int loss(int p, int way, int k) {
        if (!isPerson(p)) {
            return UNKNOWN;
        }
        if (!isWay(way) || !isAhead(k)) {
            return OUTSIDE;
        }
        work.lookAhead(p, now, k);
        return ways.lossBy(way, work.ahead[k]);
    }

    public int count(int what) {
        switch (what) {
            case 0: return now;
            case 1: return book.thingCount;
            case 2: return book.thingsThatAre(WAITING, now);
            case 3: return book.thingsThatAre(TOLD, now);
            case 4: return book.thingsThatAre(DEAD, now);
            case 5: return book.thingsThatAre(LATE, now);
            case 6: return book.sayingCount;
            case 7: return lawText.length;
            default: return OUTSIDE;
        }
    }

    // ---- laws

    public int feed(int n, long bytes) {
        if (!within(n, 1, 8)) {
            return OUTSIDE;
        }
        if (lawText.length + n > MOST_BYTES) {
            return FULL;
        }
        for (int i = n - 1; i >= 0; i--) {
            lawText.append((int) (bytes >>> (8 * i)) & 255);
        }
        return lawText.length;
    }

    public int read(int p) {
        if (!isPerson(p)) {
            return UNKNOWN;
        }
        lawText.parse(spareLaws);
        lawText.length = 0;
        if (lawText.faultKind != 0) {
            return -10 - lawText.faultKind;
        }
        Laws old = lawsOf[p];
        lawsOf[p] = spareLaws;
        spareLaws = old;
        return lawsOf[p].count;
    }

    public int fault() {
        return lawText.faultAt;
    }

    public int barred(int p, int set, int way) {
        if (!isPerson(p) || !book.hasThings(set)) {
            return UNKNOWN;
        }
        if (!isWay(way)) {
            return OUTSIDE;
        }
        return barNow(p, set, way);
    }

    private int barNow(int p, int set, int way) {
        work.lookAhead(p, now, 0);
        gate.open(lawsOf[p], book, now, work.ahead[0]);
        book.countSaid(p, saidIn);
        return gate.bar(set, way, lawsOf[p].mostBars(saidIn, now));
    }

    // ---- plans

    public int plan(int p, int n, int i, int what) {
        if (!isPerson(p)) {
            return UNKNOWN;
        }
        if (!within(n, 1, PLAN_STEPS) || !within(i, NONE, n - 1) || !within(what, 0, 1)) {
            return OUTSIDE;
        }
        planner.make(p, n, now, lawsOf[p]);
        if (i == NONE) {
            return planner.most;
        }
        return what == 0 ? planner.stepSets[i] : planner.stepWays[i];
    }

    // ---- sayings

    public int say(int p, int set, int way) {
        if (!isPerson(p) || !book.hasThings(set)) {
            return UNKNOWN;
        }
        if (!isWay(way)) {
            return OUTSIDE;
        }
        if (barNow(p, set, way) != 0 || !book.canBeSaid(set, p)) {
            return NOT;
        }
        if (book.sayingCount >= MOST_SAYINGS) {
            return FULL;
        }
        Saying made = book.sayings[book.sayingCount];
        made.person = p;
        made.set = set;
        made.way = way;
        made.tick = now;
        book.sayingCount++;
        return book.sayingCount - 1;
    }

    public int came(int s, int what) {
        if (!book.hasSaying(s)) {
            return UNKNOWN;
        }
        if (!within(what, 1, 3)) {
            return OUTSIDE;
        }
        int was = book.sayings[s].outcome;
        if (was != 0) {
            return NOT;
        }
        book.sayings[s].outcome = what;
        return was;
    }

    public int saying(int s, int what) {
        if (!book.hasSaying(s)) {
            return UNKNOWN;
        }
        Saying asked = book.sayings[s];
        switch (what) {
            case 0: return asked.person;
            case 1: return asked.set;
            case 2: return asked.way;
            case 3: return asked.tick;
            case 4: return asked.outcome;
            case 5: return asked.set & book.deadThings();
            default: return OUTSIDE;
        }
    }

    public int learnt(int a, int b, int what) {
        if (!isWay(a) || !isWay(b) || a == b || !within(what, 0, 5)) {
            return OUTSIDE;
        }
        int x = book.lookedAtBy(a);
        int m = book.outcomesBy(a);
        int y = book.lookedAtBy(b);
        int n = book.outcomesBy(b);
        switch (what) {
            case 0: return x;
            case 1: return m;
            case 2: return y;
            case 3: return n;
            default: return m + n > MOST_DEALT ? NOT : chance(x, m, y, n, what == 4);
        }
    }

    private static int chance(int x, int m, int y, int n, boolean upper) {
        long all = choose(m + n, x + y);
        long good = 0;
        for (int inA = x; inA <= m; inA++) {
            good += choose(m, inA) * choose(n, x + y - inA);
        }
        long part = commonPart(good, all);
        if (part <= 0) {
            return NOT;
        }
        return (int) ((upper ? good : all) / part);
    }

    private static long choose(int n, int k) {
        if (k < 0 || k > n) {
            return 0;
        }
        long deals = 1;
        for (int i = 1; i <= k; i++) {
            deals = deals * (n - k + i) / i;
        }
        return deals;
    }

    private static long commonPart(long a, long b) {
        long part = a;
        long rest = b;
        // The rest is halved at least every second time, so a long needs far fewer rounds.
        for (int round = 0; round < 200 && rest != 0; round++) {
            long left = part % rest;
            part = rest;
            rest = left;
        }
        return part;
    }

    // ---- several, tried

    public int who(int t, int what) {
        if (!book.hasThing(t)) {
            return UNKNOWN;
        }
        if (!within(what, 0, 1)) {
            return OUTSIDE;
        }
        int able = book.things[t].persons;
        if (what == 1) {
            able &= ~book.personsWith(t);
        }
        int best = NONE;
        int bestOdds = NONE;
        for (int p = 0; p < PERSONS; p++) {
            if (contains(able, p)) {
                work.lookAhead(p, now, 0);
                if (work.seamOdds(0) > bestOdds) {
                    best = p;
                    bestOdds = work.seamOdds(0);
                }
            }
        }
        return best;
    }

    public int tried(int p, int h, int way, int what) {
        if (!isPerson(p)) {
            return UNKNOWN;
        }
        if (!within(h, 0, MILLION) || !isWay(way) || !within(what, 0, 3)) {
            return OUTSIDE;
        }
        trial.run(p, h, way, now);
        switch (what) {
            case 0: return trial.late;
            case 1: return trial.waited;
            case 2: return trial.paid;
            default: return trial.said;
        }
    }

    // ---- small tests that all parts share

    private static boolean within(int v, int least, int most) {
        return v >= least && v <= most;
    }

    private static boolean isPerson(int p) {
        return within(p, 0, PERSONS - 1);
    }

    private static boolean isState(int i) {
        return within(i, 0, STATES - 1);
    }

    private static boolean isWay(int way) {
        return within(way, 0, WAYS - 1);
    }

    private static boolean isOften(int v) {
        return within(v, 0, 4);
    }

    private static boolean isAhead(int k) {
        return within(k, 0, FARTHEST);
    }

    private static boolean contains(int set, int k) {
        return (set >> k & 1) != 0;
    }

    private static int exchange(int[] row, int at, int v) {
        if (at < 0 || at >= row.length) {
            return OUTSIDE;
        }
        int was = row[at];
        row[at] = v;
        return was;
    }

    /** WORK: how STATES follow one another and show SIGNS, and what was seen of each PERSON. */
    private static final class Work {
        final int[][] next = new int[STATES][STATES];
        final int[][] shown = new int[STATES][SIGNS];
        final int[] first = new int[STATES];
        final int[][] signs = new int[PERSONS][LAST_TICK + 1];
        final int[][] ahead = new int[FARTHEST + 1][STATES];
        int seamStates;
        private long[] weights = new long[STATES];
        private long[] laterWeights = new long[STATES];

        Work() {
            for (int i = 0; i < STATES; i++) {
                first[i] = 1;
                for (int j = 0; j < STATES; j++) {
                    next[i][j] = 1;
                }
                for (int s = 0; s < SIGNS; s++) {
                    shown[i][s] = 1;
                }
            }
            for (int p = 0; p < PERSONS; p++) {
                for (int t = 0; t <= LAST_TICK; t++) {
                    signs[p][t] = NONE;
                }
            }
        }

        int fittingRows(int p, int t) {
            weigh(p, t, true);
            return (int) allWeights();
        }

        /** Fills ahead[0] to ahead[k] with the ODDS at TICK t and ahead of it. */
        void lookAhead(int p, int t, int k) {
            weigh(p, t, false);
            long all = allWeights();
            for (int i = 0; i < STATES; i++) {
                ahead[0][i] = all <= 0 ? 0 : (int) (weights[i] * MILLION / all);
            }
            for (int step = 1; step <= k && step <= FARTHEST; step++) {
                moveOn(ahead[step - 1], ahead[step]);
            }
        }

        int seamOdds(int k) {
            int sum = 0;
            for (int i = 0; i < STATES; i++) {
                if (contains(seamStates, i)) {
                    sum += ahead[k][i];
                }
            }
            return sum;
        }

        private void moveOn(int[] from, int[] to) {
            for (int j = 0; j < STATES; j++) {
                to[j] = 0;
            }
            for (int i = 0; i < STATES; i++) {
                int all = next[i][0] + next[i][1] + next[i][2] + next[i][3];
                if (all > 0) {
                    for (int j = 0; j < STATES; j++) {
                        to[j] += from[i] * next[i][j] / all;
                    }
                }
            }
        }

        /** Leaves for each STATE all WEIGHTS of ROWS that end with it, or (counting) how many of them are above 0. */
        private void weigh(int p, int t, boolean counting) {
            int start = t > LOOKED_BACK ? t - LOOKED_BACK : 0;
            for (int i = 0; i < STATES; i++) {
                weights[i] = factor(first[i], counting) * signFactor(i, signs[p][start], counting);
            }
            for (int tick = start + 1; tick <= t; tick++) {
                for (int j = 0; j < STATES; j++) {
                    long sum = 0;
                    for (int i = 0; i < STATES; i++) {
                        sum += weights[i] * factor(next[i][j], counting);
                    }
                    laterWeights[j] = sum * signFactor(j, signs[p][tick], counting);
                }
                long[] old = weights;
                weights = laterWeights;
                laterWeights = old;
            }
        }

        private long signFactor(int i, int s, boolean counting) {
            return s < 0 || s >= SIGNS ? 1 : factor(shown[i][s], counting);
        }

        private static long factor(int often, boolean counting) {
            return counting && often > 0 ? 1 : often;
        }

        private long allWeights() {
            return weights[0] + weights[1] + weights[2] + weights[3];
        }
    }

    /** WAYS: what they COST by STATES, and by what odds they are SEEN. */
    private static final class Ways {
        final int[][] costs = new int[WAYS][STATES];
        final int[] seenOdds = new int[WAYS];

        Ways() {
            for (int way = 0; way < WAYS; way++) {
                seenOdds[way] = 50;
                for (int i = 0; i < STATES; i++) {
                    costs[way][i] = 10;
                }
            }
        }

        int lossBy(int way, int[] oddsRow) {
            int sum = 0;
            for (int i = 0; i < STATES; i++) {
                sum += (int) ((long) oddsRow[i] * costs[way][i] / MILLION);
            }
            return sum;
        }
    }

    /** A THING to tell. */
    private static final class Thing {
        int persons;
        int kind;
        int matter;
        int from;
        int worth;
        int less;
        int clock;
        int tick;
        boolean takenBack;

        int valueIn(int inTick, int seamOdds) {
            if (takenBack || inTick > clock) {
                return 0;
            }
            int left = Math.max(0, worth - less * (inTick - tick));
            return kind == SEAM ? (int) ((long) left * seamOdds / MILLION) : left;
        }

        int planValueIn(int inTick, int seamOdds) {
            int bonus = isMust() && inTick <= clock ? MUST_BONUS : 0;
            return valueIn(inTick, seamOdds) + bonus;
        }

        boolean isMust() {
            return kind == MUST || kind == TWO;
        }
    }

    /** A SAYING: what was said to whom, by which WAY, when, and what came of it. */
    private static final class Saying {
        int person;
        int set;
        int way;
        int tick;
        int outcome;
    }

    /** All THINGS and SAYINGS. */
    private static final class Book {
        final Thing[] things = new Thing[MOST_THINGS];
        final Saying[] sayings = new Saying[MOST_SAYINGS];
        int thingCount;
        int sayingCount;

        Book() {
            for (int t = 0; t < MOST_THINGS; t++) {
                things[t] = new Thing();
            }
            for (int s = 0; s < MOST_SAYINGS; s++) {
                sayings[s] = new Saying();
            }
        }

        boolean hasThing(int t) {
            return t >= 0 && t < thingCount;
        }

        /** Whether a SET has THINGS and nothing but THINGS. */
        boolean hasThings(int set) {
            return set > 0 && set < 1 << thingCount;
        }

        boolean hasSaying(int s) {
            return s >= 0 && s < sayingCount;
        }

        int standing(int t, int now) {
            if (things[t].takenBack) {
                return DEAD;
            }
            if (isTold(t)) {
                return TOLD;
            }
            return things[t].clock < now ? LATE : WAITING;
        }

        int thingsThatAre(int standing, int now) {
            int sum = 0;
            for (int t = 0; t < thingCount; t++) {
                if (standing(t, now) == standing) {
                    sum++;
                }
            }
            return sum;
        }

        private boolean isTold(int t) {
            int notWiped = 0;
            int lookers = 0;
            for (int s = 0; s < sayingCount; s++) {
                if (contains(sayings[s].set, t)) {
                    if (sayings[s].outcome != WIPED) {
                        notWiped++;
                    }
                    if (sayings[s].outcome == LOOKED_AT) {
                        lookers |= 1 << sayings[s].person;
                    }
                }
            }
            return notWiped > 0 && (things[t].kind != TWO || Integer.bitCount(lookers) >= 2);
        }

        int sayingsWith(int t) {
            int sum = 0;
            for (int s = 0; s < sayingCount; s++) {
                if (contains(sayings[s].set, t)) {
                    sum++;
                }
            }
            return sum;
        }

        int personsWith(int t) {
            int persons = 0;
            for (int s = 0; s < sayingCount; s++) {
                if (contains(sayings[s].set, t)) {
                    persons |= 1 << sayings[s].person;
                }
            }
            return persons;
        }

        int deadThings() {
            int set = 0;
            for (int t = 0; t < thingCount; t++) {
                if (things[t].takenBack) {
                    set |= 1 << t;
                }
            }
            return set;
        }

        /** Whether all are alive, for the PERSON, and of one MATTER. */
        boolean canBeSaid(int set, int p) {
            int matter = NONE;
            for (int t = 0; t < thingCount; t++) {
                if (contains(set, t)) {
                    Thing one = things[t];
                    if (one.takenBack || !contains(one.persons, p)) {
                        return false;
                    }
                    if (matter != NONE && matter != one.matter) {
                        return false;
                    }
                    matter = one.matter;
                }
            }
            return true;
        }

        /** Fills a row with how many SAYINGS a PERSON had in each TICK. */
        void countSaid(int p, int[] row) {
            for (int tick = 0; tick < row.length; tick++) {
                row[tick] = 0;
            }
            for (int s = 0; s < sayingCount; s++) {
                int tick = sayings[s].tick;
                if (sayings[s].person == p && tick >= 0 && tick < row.length) {
                    row[tick]++;
                }
            }
        }

        int outcomesBy(int way) {
            int sum = 0;
            for (int s = 0; s < sayingCount; s++) {
                if (sayings[s].way == way && sayings[s].outcome != 0) {
                    sum++;
                }
            }
            return sum;
        }

        int lookedAtBy(int way) {
            int sum = 0;
            for (int s = 0; s < sayingCount; s++) {
                if (sayings[s].way == way && sayings[s].outcome == LOOKED_AT) {
                    sum++;
                }
            }
            return sum;
        }
    }

    /** LAWS of one PERSON: rows of clauses, each with up to three NUMBERS. */
    private static final class Laws {
        static final int NEVER_WAY = 0;
        static final int NEVER_WAY_STATE = 1;
        static final int NEVER_KIND = 2;
        static final int MOST = 3;
        static final int ALWAYS = 4;

        int count;
        private final int[] sorts = new int[MOST_CLAUSES];
        private final int[] firsts = new int[MOST_CLAUSES];
        private final int[] seconds = new int[MOST_CLAUSES];
        private final int[] thirds = new int[MOST_CLAUSES];

        void add(int sort, int a, int b, int c) {
            if (count < MOST_CLAUSES) {
                sorts[count] = sort;
                firsts[count] = a;
                seconds[count] = b;
                thirds[count] = c;
                count++;
            }
        }

        int barredWays(int[] oddsRow) {
            int set = 0;
            for (int c = 0; c < count; c++) {
                if (sorts[c] == NEVER_WAY || sorts[c] == NEVER_WAY_STATE && isLikely(c, oddsRow)) {
                    set |= 1 << firsts[c];
                }
            }
            return set;
        }

        private boolean isLikely(int c, int[] oddsRow) {
            int i = seconds[c];
            return i >= 0 && i < oddsRow.length
                && (long) oddsRow[i] * 100 >= (long) thirds[c] * MILLION;
        }

        int barredKinds(int tick) {
            int set = 0;
            for (int c = 0; c < count; c++) {
                if (sorts[c] == NEVER_KIND && tick > seconds[c]) {
                    set |= 1 << firsts[c];
                }
            }
            return set;
        }

        int alwaysFrom() {
            int set = 0;
            for (int c = 0; c < count; c++) {
                if (sorts[c] == ALWAYS) {
                    set |= 1 << firsts[c];
                }
            }
            return set;
        }

        boolean countsSayings() {
            for (int c = 0; c < count; c++) {
                if (sorts[c] == MOST) {
                    return true;
                }
            }
            return false;
        }

        /** Whether a 'most' clause bars one more SAYING in a TICK, by how many were said in each. */
        boolean mostBars(int[] saidIn, int tick) {
            for (int c = 0; c < count; c++) {
                if (sorts[c] == MOST && saidWithin(saidIn, tick - seconds[c] + 1, tick) >= firsts[c]) {
                    return true;
                }
            }
            return false;
        }

        private static int saidWithin(int[] saidIn, int from, int to) {
            int sum = 0;
            for (int tick = Math.max(0, from); tick <= to && tick < saidIn.length; tick++) {
                sum += saidIn[tick];
            }
            return sum;
        }
    }

    /** What LAWS bar in one TICK, as SETS, so that many SAYINGS can be tried against them. */
    private static final class Gate {
        int alwaysThings;
        private int kindThings;
        private int ways;

        void open(Laws laws, Book book, int tick, int[] oddsRow) {
            int from = laws.alwaysFrom();
            int kinds = laws.barredKinds(tick);
            ways = laws.barredWays(oddsRow);
            alwaysThings = 0;
            kindThings = 0;
            for (int t = 0; t < book.thingCount; t++) {
                if (contains(from, book.things[t].from)) {
                    alwaysThings |= 1 << t;
                } else if (contains(kinds, book.things[t].kind)) {
                    kindThings |= 1 << t;
                }
            }
        }

        /** 0: LET; 1 the WAY, 2 a KIND, 3 most. */
        int bar(int set, int way, boolean mostBars) {
            boolean always = isAlways(set);
            if (!always && contains(ways, way)) {
                return 1;
            }
            if ((set & kindThings) != 0) {
                return 2;
            }
            return !always && mostBars ? 3 : 0;
        }

        boolean isAlways(int set) {
            return (set & ~alwaysThings) == 0;
        }
    }

    /** THE TEXT, and how it is read into LAWS. */
    private static final class LawText {
        int length;
        int faultKind;
        int faultAt = NONE;
        private final int[] bytes = new int[MOST_BYTES];
        private int at;

        void append(int b) {
            if (length < MOST_BYTES) {
                bytes[length] = b;
                length++;
            }
        }

        void parse(Laws out) {
            at = 0;
            faultKind = 0;
            faultAt = NONE;
            out.count = 0;
            skipBlanks();
            // A clause takes a byte at least, or has a FAULT.
            for (int clause = 0; clause < MOST_BYTES && at < length && faultKind == 0; clause++) {
                readClause(out);
                skipBlanks();
            }
        }

        private void readClause(Laws out) {
            int start = at;
            if (takeWord("never")) {
                refuseNinth(out, start);
                readNever(out);
            } else if (takeWord("most")) {
                refuseNinth(out, start);
                int most = takeNumber(0, 9);
                needWord("in");
                int ticks = takeNumber(1, 60);
                finish(out, Laws.MOST, most, ticks, 0);
            } else if (takeWord("always")) {
                refuseNinth(out, start);
                needWord("from");
                int from = takeNumber(0, 9);
                finish(out, Laws.ALWAYS, from, 0, 0);
            } else {
                note(1, at);
            }
        }

        private void readNever(Laws out) {
            if (takeWord("way")) {
                int way = takeNumber(0, 3);
                if (takeWord("state")) {
                    int state = takeNumber(0, 3);
                    int percent = takeNumber(0, 100);
                    finish(out, Laws.NEVER_WAY_STATE, way, state, percent);
                } else {
                    finish(out, Laws.NEVER_WAY, way, 0, 0);
                }
            } else {
                needWord("kind");
                int kind = takeNumber(0, 3);
                needWord("after");
                int tick = takeNumber(0, 60);
                finish(out, Laws.NEVER_KIND, kind, tick, 0);
            }
        }

        private void refuseNinth(Laws out, int start) {
            if (out.count >= MOST_CLAUSES) {
                note(3, start);
            }
        }

        private void finish(Laws out, int sort, int a, int b, int c) {
            skipBlanks();
            if (at >= length || bytes[at] != ';') {
                note(1, at);
            }
            if (faultKind == 0) {
                at++;
                out.add(sort, a, b, c);
            }
        }

        /** The first FAULT holds: what stands behind it is not looked at. */
        private void note(int kind, int where) {
            if (faultKind == 0) {
                faultKind = kind;
                faultAt = where;
            }
        }

        private void skipBlanks() {
            while (at < length && bytes[at] == ' ') {
                at++;
            }
        }

        private void needWord(String word) {
            if (!takeWord(word)) {
                note(1, at);
            }
        }

        private boolean takeWord(String word) {
            if (faultKind != 0) {
                return false;
            }
            skipBlanks();
            int end = at;
            while (end < length && bytes[end] >= 'a' && bytes[end] <= 'z') {
                end++;
            }
            if (end - at != word.length()) {
                return false;
            }
            for (int i = 0; i < word.length(); i++) {
                if (bytes[at + i] != word.charAt(i)) {
                    return false;
                }
            }
            at = end;
            return true;
        }

        private int takeNumber(int least, int most) {
            if (faultKind != 0) {
                return 0;
            }
            skipBlanks();
            int start = at;
            int number = 0;
            while (at < length && bytes[at] >= '0' && bytes[at] <= '9') {
                if (at - start < 3) {
                    number = number * 10 + bytes[at] - '0';
                }
                at++;
            }
            if (at == start) {
                note(1, start);
            } else if (at - start > 3 || !within(number, least, most)) {
                note(2, start);
            }
            return number;
        }
    }

    /**
     * THE BEST PLAN, found from its last step backwards. A node is what matters of
     * the steps gone: a 1, and behind it a bit for each step, whether something was
     * said in it (the latest step lowest); without 'most' clauses all these bits stay 0.
     */
    private static final class Planner {
        int most;
        final int[] stepSets = new int[PLAN_STEPS];
        final int[] stepWays = new int[PLAN_STEPS];

        private final Work work;
        private final Ways ways;
        private final Book book;
        private final Gate gate = new Gate();
        private final int[] picks = new int[PLAN_THINGS];
        private final int[] realSets = new int[PLAN_SETS];
        private final int[] matters = new int[PLAN_SETS];
        private final int[] values = new int[PLAN_SETS];
        private final int[] losses = new int[WAYS];
        private final int[] gains = new int[PLAN_STEPS * PLAN_SETS];
        private final int[] gainWays = new int[PLAN_STEPS * PLAN_SETS];
        private final int[] totals = new int[PLAN_NODES * PLAN_SETS];
        private final int[] saidIn = new int[PLAN_TICKS];
        private int pickCount;
        private int steps;
        private boolean counting;

        Planner(Work work, Ways ways, Book book) {
            this.work = work;
            this.ways = ways;
            this.book = book;
        }

        void make(int p, int n, int now, Laws laws) {
            steps = Math.min(n, PLAN_STEPS);
            counting = laws.countsSayings();
            pick(p, now);
            work.lookAhead(p, now, steps - 1);
            for (int step = 0; step < steps; step++) {
                price(step, now + step, laws);
            }
            book.countSaid(p, saidIn);
            int saidNow = saidIn[now];
            for (int step = steps - 1; step >= 0; step--) {
                int nodes = counting ? 1 << step : 1;
                for (int node = 1 << step; node < (1 << step) + nodes; node++) {
                    boolean mostBars = mostBarsAt(node, step, now, saidNow, laws);
                    for (int used = 0; used < 1 << pickCount; used++) {
                        decide(node, step, used, mostBars);
                    }
                }
            }
            most = totals[PLAN_SETS];
            tell(now, saidNow, laws);
        }

        private void pick(int p, int now) {
            pickCount = 0;
            for (int t = 0; t < book.thingCount && pickCount < PLAN_THINGS; t++) {
                if (contains(book.things[t].persons, p) && book.standing(t, now) == WAITING) {
                    picks[pickCount] = t;
                    pickCount++;
                }
            }
            realSets[0] = 0;
            for (int j = 0; j < pickCount; j++) {
                int matter = book.things[picks[j]].matter;
                for (int rest = 0; rest < 1 << j; rest++) {
                    int set = rest | 1 << j;
                    realSets[set] = realSets[rest] | 1 << picks[j];
                    matters[set] = rest == 0 || matters[rest] == matter ? matter : NONE;
                }
            }
        }

        /** What each SET of one MATTER gains in a step by the best of the WAYS that are LET but for 'most'. */
        private void price(int step, int tick, Laws laws) {
            gate.open(laws, book, tick, work.ahead[step]);
            for (int way = 0; way < WAYS; way++) {
                losses[way] = ways.lossBy(way, work.ahead[step]);
            }
            values[0] = 0;
            for (int j = 0; j < pickCount; j++) {
                int one = book.things[picks[j]].planValueIn(tick, work.seamOdds(step));
                for (int rest = 0; rest < 1 << j; rest++) {
                    values[rest | 1 << j] = values[rest] + one;
                }
            }
            for (int set = 1; set < 1 << pickCount; set++) {
                priceSet(step * PLAN_SETS + set, set);
            }
        }

        /** What gains nothing is never said in THE BEST PLAN: nothing is ahead of it, and bars no less. */
        private void priceSet(int place, int set) {
            gains[place] = 0;
            gainWays[place] = NONE;
            if (matters[set] == NONE) {
                return;
            }
            for (int way = 0; way < WAYS; way++) {
                int gain = values[set] * ways.seenOdds[way] / 100 - losses[way];
                if (gain > gains[place] && gate.bar(realSets[set], way, false) == 0) {
                    gains[place] = gain;
                    gainWays[place] = way;
                }
            }
        }

        private boolean mostBarsAt(int node, int step, int now, int saidNow, Laws laws) {
            if (!counting || now + step >= saidIn.length) {
                return false;
            }
            for (int earlier = 0; earlier < step; earlier++) {
                saidIn[now + earlier] = node >> (step - 1 - earlier) & 1;
            }
            saidIn[now + step] = 0;
            saidIn[now] += saidNow;
            return laws.mostBars(saidIn, now + step);
        }

        /** The first of the best SETS to say in a step (0: nothing); its total is kept. */
        private int decide(int node, int step, int used, boolean mostBars) {
            int free = (1 << pickCount) - 1 & ~used;
            int chosen = 0;
            int best = total(nodeBehind(node, false), used);
            int set = 0;
            int sets = 1 << Integer.bitCount(free);
            for (int i = 1; i < sets; i++) {
                set = set - free & free;
                int gain = gains[step * PLAN_SETS + set];
                if (gain > 0 && !(mostBars && !gate.isAlways(realSets[set]))) {
                    int sum = gain + total(nodeBehind(node, true), used | set);
                    if (sum > best) {
                        best = sum;
                        chosen = set;
                    }
                }
            }
            totals[node * PLAN_SETS + used] = best;
            return chosen;
        }

        private int nodeBehind(int node, boolean said) {
            return node * 2 + (said && counting ? 1 : 0);
        }

        private int total(int node, int used) {
            return node >= 1 << steps ? 0 : totals[node * PLAN_SETS + used];
        }

        private void tell(int now, int saidNow, Laws laws) {
            int node = 1;
            int used = 0;
            for (int step = 0; step < steps; step++) {
                int set = decide(node, step, used, mostBarsAt(node, step, now, saidNow, laws));
                stepSets[step] = realSets[set];
                stepWays[step] = set == 0 ? NONE : gainWays[step * PLAN_SETS + set];
                used |= set;
                node = nodeBehind(node, set != 0);
            }
        }
    }

    /** TRIED: a rule gone through again on the TICKS that are gone. */
    private static final class Trial {
        int late;
        int waited;
        int paid;
        int said;

        private final Work work;
        private final Ways ways;
        private final Book book;
        private int done;

        Trial(Work work, Ways ways, Book book) {
            this.work = work;
            this.ways = ways;
            this.book = book;
        }

        void run(int p, int h, int way, int now) {
            late = 0;
            waited = 0;
            paid = 0;
            said = 0;
            done = 0;
            for (int tick = 0; tick < now; tick++) {
                work.lookAhead(p, tick, 0);
                int before = said;
                sayIn(tick, p, work.seamOdds(0) >= h);
                if (said > before) {
                    paid += ways.lossBy(way, work.ahead[0]);
                }
            }
            for (int t = 0; t < book.thingCount; t++) {
                if (isLeft(t, p) && book.things[t].clock < now) {
                    late++;
                }
            }
        }

        private void sayIn(int tick, int p, boolean isSeam) {
            for (int t = 0; t < book.thingCount; t++) {
                Thing one = book.things[t];
                boolean pressed = one.isMust() && tick == one.clock;
                if (isLeft(t, p) && one.tick <= tick && (isSeam || pressed)) {
                    done |= 1 << t;
                    said++;
                    waited += tick - one.tick;
                    if (tick > one.clock) {
                        late++;
                    }
                }
            }
        }

        private boolean isLeft(int t, int p) {
            return contains(book.things[t].persons, p) && !contains(done, t);
        }
    }
}
