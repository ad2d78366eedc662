import java.math.BigInteger;
import java.util.ArrayList;
import java.util.Arrays;
import java.util.HashMap;
import java.util.List;
import java.util.Map;
import java.util.Random;
import java.util.regex.Matcher;
import java.util.regex.Pattern;

/**
 * Long runs of calls, drawn by a fixed seed, against a second program that does
 * what the document says in the most roundabout way: every ROW, every deal and
 * (where they are few) every PLAN is gone through one by one.
 */
public final class ModelTest {
    private static final int NONE = -1, UNKNOWN = -1001, OUTSIDE = -1002, NOT = -1003, FULL = -1004;
    private static final int RUNS = 700;

    private static int calls;
    private static int wrong;

    public static void main(String[] args) {
        int[] asked = new int[30];
        int[] answered = new int[30];
        for (int run = 0; run < RUNS && wrong < 10; run++) {
            oneRun(run, asked, answered);
        }
        // A call that is always refused would show nothing.
        for (int c = 1; c < 30; c++) {
            if (c != 21 && answered[c] < 50) {
                wrong++;
                System.out.println("call " + c + " was answered only " + answered[c] + " times of " + asked[c]);
            }
        }
        System.out.println(calls + " calls in " + RUNS + " runs, " + wrong + " wrong");
        if (wrong != 0) {
            System.exit(1);
        }
    }

    private static void oneRun(int run, int[] asked, int[] answered) {
        Random r = new Random(7919L * run + 5);
        WhenToSpeak x = new WhenToSpeak();
        Model m = new Model();
        Draw d = new Draw(r, m, run);
        List<String> log = new ArrayList<>();
        for (int i = 0; i < 250; i++) {
            int c = d.call();
            long[] a = d.arguments(c);
            long got = ask(x, c, a);
            long want = m.ask(c, a);
            log.add(c + Arrays.toString(a) + " = " + got);
            calls++;
            asked[c]++;
            if (want >= 0) {
                answered[c]++;
            }
            if (got != want) {
                wrong++;
                System.out.println("run " + run + ", call " + i + ": due is " + want);
                System.out.println(String.join("\n", log.subList(0, log.size())));
                return;
            }
        }
    }

    private static long ask(WhenToSpeak x, int c, long[] l) {
        int[] a = new int[7];
        for (int i = 0; i < 7; i++) {
            a[i] = (int) l[i];
        }
        switch (c) {
            case 1: return x.move(a[0], a[1], a[2]);
            case 2: return x.shows(a[0], a[1], a[2]);
            case 3: return x.begins(a[0], a[1]);
            case 4: return x.seams(a[0]);
            case 5: return x.sign(a[0], a[1]);
            case 6: return x.go(a[0]);
            case 7: return x.fits(a[0], a[1]);
            case 8: return x.odds(a[0], a[1], a[2]);
            case 9: return x.seam(a[0], a[1]);
            case 10: return x.until(a[0], a[1]);
            case 11: return x.thing(a[0], a[1], a[2], a[3], a[4], a[5], a[6]);
            case 12: return x.dead(a[0]);
            case 13: return x.told(a[0], a[1]);
            case 14: return x.value(a[0], a[1], a[2]);
            case 15: return x.cost(a[0], a[1], a[2]);
            case 16: return x.seen(a[0], a[1]);
            case 17: return x.loss(a[0], a[1], a[2]);
            case 18: return x.count(a[0]);
            case 19: return x.feed(a[0], l[1]);
            case 20: return x.read(a[0]);
            case 21: return x.fault();
            case 22: return x.barred(a[0], a[1], a[2]);
            case 23: return x.plan(a[0], a[1], a[2], a[3]);
            case 24: return x.say(a[0], a[1], a[2]);
            case 25: return x.came(a[0], a[1]);
            case 26: return x.saying(a[0], a[1]);
            case 27: return x.learnt(a[0], a[1], a[2]);
            case 28: return x.who(a[0], a[1]);
            default: return x.tried(a[0], a[1], a[2], a[3]);
        }
    }

    /** Draws calls and arguments, mostly within their bounds. */
    private static final class Draw {
        private final Random r;
        private final Model m;
        private final boolean many;
        private final StringBuilder waiting = new StringBuilder();
        private boolean readNext;

        Draw(Random r, Model m, int run) {
            this.r = r;
            this.m = m;
            this.many = run % 3 == 0;
        }

        int call() {
            if (waiting.length() > 0) {
                return 19;
            }
            if (readNext) {
                readNext = false;
                return 20;
            }
            if (r.nextInt(25) == 0) {
                waiting.append(lawText());
                readNext = true;
                return 19;
            }
            int c = 1 + r.nextInt(29);
            if (c <= 3 && r.nextInt(3) != 0) {
                c = 24;
            }
            if (c == 12 && r.nextInt(3) != 0) {
                c = 11;
            }
            if (c == 18 && r.nextInt(2) != 0) {
                c = 25;
            }
            return c;
        }

        private int in(int least, int most) {
            if (r.nextInt(60) == 0) {
                int[] odd = {least - 1, most + 1, Integer.MIN_VALUE, Integer.MAX_VALUE};
                return odd[r.nextInt(4)];
            }
            return least + r.nextInt(most - least + 1);
        }

        private int person() {
            return r.nextInt(3) == 0 ? in(0, 3) : 0;
        }

        private int tNumber() {
            return in(0, Math.max(0, m.things.size() - 1));
        }

        private int set() {
            if (r.nextInt(3) == 0 || m.things.isEmpty()) {
                return in(1, 1 << m.things.size());
            }
            int first = r.nextInt(m.things.size());
            int s = 1 << first;
            for (int t = 0; t < m.things.size(); t++) {
                if (m.things.get(t)[2] == m.things.get(first)[2] && r.nextInt(2) == 0) {
                    s |= 1 << t;
                }
            }
            return s;
        }

        private int threshold() {
            int[] some = {0, 1, 250000, 300000, 500000, 1000000};
            return r.nextBoolean() ? some[r.nextInt(6)] : in(0, 1000000);
        }

        private int step() {
            return r.nextInt(8) == 0 ? in(0, 20) : in(0, 2);
        }

        long[] arguments(int c) {
            switch (c) {
                case 1: case 2: return row(in(0, 3), in(0, 3), in(0, 4));
                case 3: return row(in(0, 3), in(0, 4));
                case 4: return row(in(0, 15));
                case 5: return row(person(), in(-1, 3));
                case 6: return row(step());
                case 7: return row(person(), in(0, m.now));
                case 8: return row(person(), in(0, 3), in(0, 8));
                case 9: return row(person(), in(0, 8));
                case 10: return row(person(), threshold());
                case 11: return row(r.nextBoolean() ? 15 : in(1, 15), in(0, 3), r.nextInt(many ? 2 : 4), in(0, 9), in(0, 999),
                    in(0, 99), r.nextInt(2) == 0 ? 60 : in(m.now, Math.min(60, m.now + 6)));
                case 12: return row(tNumber());
                case 13: return row(tNumber(), in(0, 7));
                case 14: return row(tNumber(), person(), in(0, 8));
                case 15: return row(in(0, 3), in(0, 3), in(0, 999));
                case 16: return row(in(0, 3), in(0, 100));
                case 17: return row(person(), in(0, 3), in(0, 8));
                case 18: return row(in(0, 7));
                case 19: return bytes();
                case 20: return row(person());
                case 22: case 24: return row(person(), set(), in(0, 3));
                case 23: return planArguments();
                case 25: return row(in(Math.max(0, m.sayings.size() - 4), Math.max(0, m.sayings.size() - 1)), in(1, 3));
                case 26: return row(in(0, Math.max(0, m.sayings.size() - 1)), in(0, 5));
                case 27: return row(in(0, 3), in(0, 3), in(0, 5));
                case 28: return row(tNumber(), in(0, 1));
                default: return row(person(), threshold(), in(0, 3), in(0, 3));
            }
        }

        private long[] planArguments() {
            int n = in(1, many ? 6 : 4);
            return row(person(), n, n > 0 && n < 7 ? in(-1, n - 1) : 0, in(0, 1));
        }

        private long[] bytes() {
            if (waiting.length() == 0) {
                return r.nextInt(3) == 0 ? row(in(1, 8), r.nextLong()) : row(1, 32);
            }
            int n = Math.min(waiting.length(), 1 + r.nextInt(8));
            long packed = r.nextLong();
            for (int i = 0; i < n; i++) {
                packed = packed << 8 | waiting.charAt(i);
            }
            waiting.delete(0, n);
            return row(n, packed);
        }

        private String lawText() {
            StringBuilder s = new StringBuilder();
            int clauses = r.nextInt(12) == 0 ? 9 : r.nextInt(5);
            for (int i = 0; i < clauses; i++) {
                s.append(clause(clauses == 9));
            }
            while (s.length() > 0 && r.nextInt(3) == 0) {
                int at = r.nextInt(s.length());
                switch (r.nextInt(4)) {
                    case 0: s.deleteCharAt(at); break;
                    case 1: s.insert(at, ' '); break;
                    case 2: s.setCharAt(at, "0123456789; nwk".charAt(r.nextInt(15))); break;
                    default: s.insert(at, (char) (r.nextInt(4) == 0 ? r.nextInt(256) : '0' + r.nextInt(10))); break;
                }
            }
            return s.toString();
        }

        private String clause(boolean brief) {
            String gap = brief || r.nextBoolean() ? "" : " ";
            switch (brief ? 1 + r.nextInt(3) : r.nextInt(6)) {
                case 0: return "never way " + in(0, 3) + gap + "state " + in(0, 3) + " " + (r.nextBoolean() ? 25 : in(0, 100)) + gap + ";";
                case 1: return "never way" + gap + in(0, 3) + ";" + gap;
                case 2: return "most" + gap + in(0, 3) + gap + "in" + gap + in(1, 7) + ";";
                case 3: return "always from" + gap + in(0, 9) + ";";
                case 4: return "most" + gap + in(0, 9) + " in " + in(1, 60) + ";" + gap;
                default: return gap + "never kind " + in(0, 3) + gap + "after " + Math.min(in(0, 60), m.now + r.nextInt(4)) + ";";
            }
        }

        private static long[] row(long... some) {
            return Arrays.copyOf(some, 7);
        }
    }

    /** What the document says, word by word. */
    private static final class Model {
        int now = 0;
        final int[][] go = filled(4, 4, 1);
        final int[][] shows = filled(4, 4, 1);
        final int[] begins = {1, 1, 1, 1};
        int seams = 0;
        final int[][] signs = filled(4, 61, NONE);
        /** persons, kind, matter, from, worth, less, clock, tick, dead. */
        final List<int[]> things = new ArrayList<>();
        /** person, set, way, tick, what came. */
        final List<int[]> sayings = new ArrayList<>();
        final int[][] cost = filled(4, 4, 10);
        final int[] seen = {50, 50, 50, 50};
        String text = "";
        final List<List<int[]>> laws = new ArrayList<>();
        int faultAt = NONE;

        Model() {
            for (int p = 0; p < 4; p++) {
                laws.add(new ArrayList<>());
            }
        }

        private static int[][] filled(int a, int b, int v) {
            int[][] made = new int[a][b];
            for (int[] row : made) {
                Arrays.fill(row, v);
            }
            return made;
        }

        private static boolean out(long v, int least, int most) {
            return v < least || v > most;
        }

        private boolean person(long p) {
            return !out(p, 0, 3);
        }

        private boolean thing(long t) {
            return t >= 0 && t < things.size();
        }

        private boolean set(long s) {
            return s > 0 && s >> things.size() == 0;
        }

        private static boolean has(long set, int k) {
            return (set / (1L << k)) % 2 == 1;
        }

        long ask(int c, long[] l) {
            int[] a = new int[7];
            for (int i = 0; i < 7; i++) {
                a[i] = (int) l[i];
            }
            switch (c) {
                case 1: return out(a[0], 0, 3) || out(a[1], 0, 3) || out(a[2], 0, 4) ? OUTSIDE : swap(go[a[0]], a[1], a[2]);
                case 2: return out(a[0], 0, 3) || out(a[1], 0, 3) || out(a[2], 0, 4) ? OUTSIDE : swap(shows[a[0]], a[1], a[2]);
                case 3: return out(a[0], 0, 3) || out(a[1], 0, 4) ? OUTSIDE : swap(begins, a[0], a[1]);
                case 4: return askSeams(a[0]);
                case 5: return askSign(a[0], a[1]);
                case 6: return askGo(a[0]);
                case 7: return !person(a[0]) ? UNKNOWN : out(a[1], 0, now) ? OUTSIDE : rows(a[0], a[1])[4].longValue();
                case 8: return !person(a[0]) ? UNKNOWN : out(a[1], 0, 3) || out(a[2], 0, 8) ? OUTSIDE : ahead(a[0], now, a[2])[a[1]];
                case 9: return !person(a[0]) ? UNKNOWN : out(a[1], 0, 8) ? OUTSIDE : seamOdds(a[0], now, a[1]);
                case 10: return askUntil(a[0], a[1]);
                case 11: return askThing(a);
                case 12: return askDead(a[0]);
                case 13: return askTold(a[0], a[1]);
                case 14: return !thing(a[0]) || !person(a[1]) ? UNKNOWN : out(a[2], 0, 8) ? OUTSIDE : value(a[0], a[1], a[2]);
                case 15: return out(a[0], 0, 3) || out(a[1], 0, 3) || out(a[2], 0, 999) ? OUTSIDE : swap(cost[a[0]], a[1], a[2]);
                case 16: return out(a[0], 0, 3) || out(a[1], 0, 100) ? OUTSIDE : swap(seen, a[0], a[1]);
                case 17: return !person(a[0]) ? UNKNOWN : out(a[1], 0, 3) || out(a[2], 0, 8) ? OUTSIDE : loss(ahead(a[0], now, a[2]), a[1]);
                case 18: return askCount(a[0]);
                case 19: return askFeed(a[0], l[1]);
                case 20: return askRead(a[0]);
                case 21: return faultAt;
                case 22: return askBarred(a[0], a[1], a[2]);
                case 23: return askPlan(a[0], a[1], a[2], a[3]);
                case 24: return askSay(a[0], a[1], a[2]);
                case 25: return askCame(a[0], a[1]);
                case 26: return askSaying(a[0], a[1]);
                case 27: return askLearnt(a[0], a[1], a[2]);
                case 28: return askWho(a[0], a[1]);
                default: return askTried(a[0], a[1], a[2], a[3]);
            }
        }

        private static int swap(int[] row, int at, int v) {
            int was = row[at];
            row[at] = v;
            return was;
        }

        private int askSeams(int s) {
            if (out(s, 0, 15)) {
                return OUTSIDE;
            }
            int was = seams;
            seams = s;
            return was;
        }

        private int askSign(int p, int s) {
            if (!person(p)) {
                return UNKNOWN;
            }
            if (out(s, -1, 3)) {
                return OUTSIDE;
            }
            signs[p][now] = s;
            return 1;
        }

        private int askGo(int n) {
            if (out(n, 0, 20)) {
                return OUTSIDE;
            }
            if (now + n > 60) {
                return NOT;
            }
            now += n;
            return now;
        }

        /** For each last STATE the sum of WEIGHTS, and at 4 how many ROWS fit. */
        private BigInteger[] rows(int p, int t) {
            long[] sums = new long[4];
            long[] fitting = {0};
            for (int i = 0; i < 4; i++) {
                walk(p, Math.max(0, t - 6), t, i, begins[i], sums, fitting);
            }
            BigInteger[] all = new BigInteger[5];
            for (int i = 0; i < 4; i++) {
                all[i] = BigInteger.valueOf(sums[i]);
            }
            all[4] = BigInteger.valueOf(fitting[0]);
            return all;
        }

        private void walk(int p, int tick, int last, int state, long weight, long[] sums, long[] fitting) {
            long w = weight * (signs[p][tick] == NONE ? 1 : shows[state][signs[p][tick]]);
            if (w == 0) {
                return;
            }
            if (tick == last) {
                sums[state] += w;
                fitting[0]++;
                return;
            }
            for (int j = 0; j < 4; j++) {
                walk(p, tick + 1, last, j, w * go[state][j], sums, fitting);
            }
        }

        private long[] ahead(int p, int t, int k) {
            if (k == 0) {
                BigInteger[] w = rows(p, t);
                BigInteger all = w[0].add(w[1]).add(w[2]).add(w[3]);
                long[] o = new long[4];
                for (int i = 0; i < 4 && all.signum() > 0; i++) {
                    o[i] = w[i].multiply(BigInteger.valueOf(1000000)).divide(all).longValue();
                }
                return o;
            }
            long[] before = ahead(p, t, k - 1);
            long[] o = new long[4];
            for (int j = 0; j < 4; j++) {
                for (int i = 0; i < 4; i++) {
                    int all = Arrays.stream(go[i]).sum();
                    o[j] += all == 0 ? 0 : before[i] * go[i][j] / all;
                }
            }
            return o;
        }

        private long seam(long[] odds) {
            long sum = 0;
            for (int i = 0; i < 4; i++) {
                sum += has(seams, i) ? odds[i] : 0;
            }
            return sum;
        }

        private long seamOdds(int p, int t, int k) {
            return seam(ahead(p, t, k));
        }

        private int askUntil(int p, int h) {
            if (!person(p)) {
                return UNKNOWN;
            }
            if (out(h, 0, 1000000)) {
                return OUTSIDE;
            }
            int k = 0;
            while (k <= 8 && seamOdds(p, now, k) < h) {
                k++;
            }
            return k > 8 ? NONE : k;
        }

        private int askThing(int[] a) {
            if (out(a[0], 1, 15)) {
                return UNKNOWN;
            }
            if (out(a[1], 0, 3) || out(a[2], 0, 5) || out(a[3], 0, 9) || out(a[4], 0, 999) || out(a[5], 0, 99) || out(a[6], now, 60)) {
                return OUTSIDE;
            }
            if (things.size() == 10) {
                return FULL;
            }
            int[] made = Arrays.copyOf(a, 9);
            made[7] = now;
            things.add(made);
            return things.size() - 1;
        }

        private int inSayings(int t) {
            return (int) sayings.stream().filter(s -> has(s[1], t)).count();
        }

        private int askDead(int t) {
            if (!thing(t)) {
                return UNKNOWN;
            }
            if (things.get(t)[8] == 1) {
                return NOT;
            }
            things.get(t)[8] = 1;
            return inSayings(t);
        }

        private int standing(int t) {
            int[] one = things.get(t);
            boolean told = sayings.stream().anyMatch(s -> has(s[1], t) && s[4] != 3);
            if (one[1] == 3) {
                told = sayings.stream().filter(s -> has(s[1], t) && s[4] == 1).mapToInt(s -> s[0]).distinct().count() >= 2;
            }
            return one[8] == 1 ? 2 : told ? 1 : one[6] < now ? 3 : 0;
        }

        private int askTold(int t, int what) {
            if (!thing(t)) {
                return UNKNOWN;
            }
            if (out(what, 0, 7)) {
                return OUTSIDE;
            }
            int[] one = things.get(t);
            int[] all = {one[0], one[1], one[2], one[3], one[6], standing(t), inSayings(t), one[7]};
            return all[what];
        }

        private long valueBy(int t, long tick, long seamOdds) {
            int[] one = things.get(t);
            if (one[8] == 1 || tick > one[6]) {
                return 0;
            }
            long v = one[4];
            for (long gone = one[7]; gone < tick; gone++) {
                v = Math.max(0, v - one[5]);
            }
            return one[1] == 2 ? v * seamOdds / 1000000 : v;
        }

        private long value(int t, int p, int k) {
            return valueBy(t, now + k, seamOdds(p, now, k));
        }

        private long loss(long[] odds, int way) {
            long sum = 0;
            for (int i = 0; i < 4; i++) {
                sum += odds[i] * cost[way][i] / 1000000;
            }
            return sum;
        }

        private int askCount(int what) {
            if (out(what, 0, 7)) {
                return OUTSIDE;
            }
            int[] by = new int[4];
            for (int t = 0; t < things.size(); t++) {
                by[standing(t)]++;
            }
            int[] all = {now, things.size(), by[0], by[1], by[2], by[3], sayings.size(), text.length()};
            return all[what];
        }

        private int askFeed(int n, long bytes) {
            if (out(n, 1, 8)) {
                return OUTSIDE;
            }
            if (text.length() + n > 160) {
                return FULL;
            }
            String hex = String.format("%016x", bytes).substring(16 - 2 * n);
            for (int i = 0; i < n; i++) {
                text += (char) Integer.parseInt(hex.substring(2 * i, 2 * i + 2), 16);
            }
            return text.length();
        }

        private int askRead(int p) {
            if (!person(p)) {
                return UNKNOWN;
            }
            List<int[]> made = new ArrayList<>();
            int[] fault = new Reader(text).read(made);
            text = "";
            faultAt = fault == null ? NONE : fault[1];
            if (fault != null) {
                return -10 - fault[0];
            }
            laws.set(p, made);
            return made.size();
        }

        /** said: TICKS of SAYINGS to that PERSON. */
        private int bar(int p, int set, int way, int tick, long[] odds, List<Integer> said) {
            List<int[]> law = laws.get(p);
            boolean all = true;
            boolean kind = false;
            for (int t = 0; t < things.size(); t++) {
                if (has(set, t)) {
                    int from = things.get(t)[3];
                    int ofKind = things.get(t)[1];
                    boolean always = law.stream().anyMatch(c -> c[0] == 'a' && c[1] == from);
                    all &= always;
                    kind |= !always && law.stream().anyMatch(c -> c[0] == 'k' && c[1] == ofKind && tick > c[2]);
                }
            }
            if (!all && law.stream().anyMatch(c -> c[0] == 'w' && c[1] == way
                || c[0] == 's' && c[1] == way && odds[c[2]] * 100 >= c[3] * 1000000L)) {
                return 1;
            }
            if (kind) {
                return 2;
            }
            return !all && law.stream().anyMatch(c -> c[0] == 'm'
                && said.stream().filter(t -> t > tick - c[2]).count() >= c[1]) ? 3 : 0;
        }

        private List<Integer> saidTo(int p) {
            List<Integer> said = new ArrayList<>();
            for (int[] s : sayings) {
                if (s[0] == p) {
                    said.add(s[3]);
                }
            }
            return said;
        }

        private int askBarred(int p, int set, int way) {
            if (!person(p) || !set(set)) {
                return UNKNOWN;
            }
            return out(way, 0, 3) ? OUTSIDE : bar(p, set, way, now, ahead(p, now, 0), saidTo(p));
        }

        private int askPlan(int p, int n, int i, int what) {
            if (!person(p)) {
                return UNKNOWN;
            }
            if (out(n, 1, 6) || out(i, -1, n - 1) || out(what, 0, 1)) {
                return OUTSIDE;
            }
            long[] best = new Plans(this, p, n).best();
            return i == NONE ? (int) best[0] : (int) best[1 + 2 * i + what];
        }

        private int askSay(int p, int set, int way) {
            int bar = askBarred(p, set, way);
            if (bar < 0) {
                return bar;
            }
            int matter = NONE;
            boolean can = bar == 0;
            for (int t = 0; t < things.size(); t++) {
                if (has(set, t)) {
                    int[] one = things.get(t);
                    can &= one[8] == 0 && has(one[0], p) && (matter == NONE || matter == one[2]);
                    matter = one[2];
                }
            }
            if (!can) {
                return NOT;
            }
            if (sayings.size() == 40) {
                return FULL;
            }
            sayings.add(new int[] {p, set, way, now, 0});
            return sayings.size() - 1;
        }

        private int askCame(int s, int what) {
            if (s < 0 || s >= sayings.size()) {
                return UNKNOWN;
            }
            if (out(what, 1, 3)) {
                return OUTSIDE;
            }
            if (sayings.get(s)[4] != 0) {
                return NOT;
            }
            return swap(sayings.get(s), 4, what);
        }

        private int askSaying(int s, int what) {
            if (s < 0 || s >= sayings.size()) {
                return UNKNOWN;
            }
            if (out(what, 0, 5)) {
                return OUTSIDE;
            }
            if (what < 5) {
                return sayings.get(s)[what];
            }
            int back = 0;
            for (int t = 0; t < things.size(); t++) {
                back += has(sayings.get(s)[1], t) && things.get(t)[8] == 1 ? 1 << t : 0;
            }
            return back;
        }

        private int askLearnt(int a, int b, int what) {
            if (out(a, 0, 3) || out(b, 0, 3) || a == b || out(what, 0, 5)) {
                return OUTSIDE;
            }
            int m = (int) sayings.stream().filter(s -> s[2] == a && s[4] > 0).count();
            int x = (int) sayings.stream().filter(s -> s[2] == a && s[4] == 1).count();
            int n = (int) sayings.stream().filter(s -> s[2] == b && s[4] > 0).count();
            int y = (int) sayings.stream().filter(s -> s[2] == b && s[4] == 1).count();
            if (what < 4) {
                return new int[] {x, m, y, n}[what];
            }
            if (m + n > 30) {
                return NOT;
            }
            BigInteger all = BigInteger.ZERO;
            BigInteger good = BigInteger.ZERO;
            for (int j = 0; j <= x + y; j++) {
                BigInteger deals = over(m, j).multiply(over(n, x + y - j));
                all = all.add(deals);
                good = j >= x ? good.add(deals) : good;
            }
            BigInteger part = good.gcd(all);
            return (what == 4 ? good : all).divide(part).intValueExact();
        }

        private static BigInteger over(int n, int k) {
            BigInteger[] row = new BigInteger[32];
            Arrays.fill(row, BigInteger.ZERO);
            row[0] = BigInteger.ONE;
            for (int i = 0; i < n; i++) {
                for (int j = 31; j > 0; j--) {
                    row[j] = row[j].add(row[j - 1]);
                }
            }
            return row[k];
        }

        private int askWho(int t, int what) {
            if (!thing(t)) {
                return UNKNOWN;
            }
            if (out(what, 0, 1)) {
                return OUTSIDE;
            }
            int best = NONE;
            for (int p = 3; p >= 0; p--) {
                int q = p;
                boolean had = sayings.stream().anyMatch(s -> s[0] == q && has(s[1], t));
                if (has(things.get(t)[0], p) && !(what == 1 && had)
                    && (best == NONE || seamOdds(p, now, 0) >= seamOdds(best, now, 0))) {
                    best = p;
                }
            }
            return best;
        }

        private int askTried(int p, int h, int way, int what) {
            if (!person(p)) {
                return UNKNOWN;
            }
            if (out(h, 0, 1000000) || out(way, 0, 3) || out(what, 0, 3)) {
                return OUTSIDE;
            }
            int late = 0;
            int waited = 0;
            int said = 0;
            boolean[] paidIn = new boolean[61];
            for (int t = 0; t < things.size(); t++) {
                int[] one = things.get(t);
                if (has(one[0], p)) {
                    int when = one[7];
                    while (when < now && seamOdds(p, when, 0) < h && !(one[1] % 3 == 0 && when == one[6])) {
                        when++;
                    }
                    if (when < now) {
                        said++;
                        waited += when - one[7];
                        paidIn[when] = true;
                        late += when > one[6] ? 1 : 0;
                    } else {
                        late += one[6] < now ? 1 : 0;
                    }
                }
            }
            int paid = 0;
            for (int t = 0; t < now; t++) {
                paid += paidIn[t] ? loss(ahead(p, t, 0), way) : 0;
            }
            return new int[] {late, waited, paid, said}[what];
        }
    }

    /** All PLANS: one by one where they are few, else by what is left to say and when something was said. */
    private static final class Plans {
        private final Model m;
        private final int p;
        private final int n;
        private final List<Integer> picked = new ArrayList<>();
        private final long[][] odds;
        private final List<Integer> past;
        private final Map<String, long[]> known = new HashMap<>();
        private final boolean few;

        Plans(Model m, int p, int n) {
            this.m = m;
            this.p = p;
            this.n = n;
            for (int t = 0; t < m.things.size(); t++) {
                if (Model.has(m.things.get(t)[0], p) && m.standing(t) == 0 && picked.size() < 6) {
                    picked.add(t);
                }
            }
            odds = new long[n][];
            for (int step = 0; step < n; step++) {
                odds[step] = m.ahead(p, m.now, step);
            }
            past = m.saidTo(p);
            few = picked.size() + n <= 5;
        }

        long[] best() {
            int all = 0;
            for (int t : picked) {
                all |= 1 << t;
            }
            return from(0, all, new ArrayList<>(past));
        }

        /** The sum, then SET and WAY of each step from this one on. */
        private long[] from(int step, int left, List<Integer> said) {
            if (step == n) {
                return new long[1];
            }
            String key = step + " " + left + " " + said;
            if (!few && known.containsKey(key)) {
                return known.get(key);
            }
            long[] best = join(0, 0, NONE, from(step + 1, left, said));
            for (int set = 1; set <= left; set++) {
                if ((set & ~left) == 0 && oneMatter(set)) {
                    best = better(best, step, set, left, said);
                }
            }
            known.put(key, best);
            return best;
        }

        private long[] better(long[] soFar, int step, int set, int left, List<Integer> said) {
            long[] best = soFar;
            for (int way = 0; way < 4; way++) {
                if (m.bar(p, set, way, m.now + step, odds[step], said) == 0) {
                    List<Integer> more = new ArrayList<>(said);
                    more.add(m.now + step);
                    long[] one = join(gain(step, set, way), set, way, from(step + 1, left & ~set, more));
                    best = one[0] > best[0] ? one : best;
                }
            }
            return best;
        }

        private boolean oneMatter(int set) {
            return picked.stream().filter(t -> Model.has(set, t)).map(t -> m.things.get(t)[2]).distinct().count() == 1;
        }

        private long gain(int step, int set, int way) {
            long sum = 0;
            for (int t : picked) {
                if (Model.has(set, t)) {
                    int[] one = m.things.get(t);
                    sum += m.valueBy(t, m.now + step, m.seam(odds[step]));
                    sum += (one[1] == 0 || one[1] == 3) && one[6] >= m.now + step ? 2000 : 0;
                }
            }
            return sum * m.seen[way] / 100 - m.loss(odds[step], way);
        }

        private static long[] join(long gain, long set, long way, long[] rest) {
            long[] all = new long[rest.length + 2];
            all[0] = gain + rest[0];
            all[1] = set;
            all[2] = way;
            System.arraycopy(rest, 1, all, 3, rest.length - 1);
            return all;
        }
    }

    /** LAWS by their words: each clause is matched against the five forms, word by word. */
    private static final class Reader {
        private static final String[] FORMS = {
            "never way 0..3 ;", "never way 0..3 state 0..3 0..100 ;", "never kind 0..3 after 0..60 ;",
            "most 0..9 in 1..60 ;", "always from 0..9 ;"};
        private static final String KINDS = "wskma";

        private final List<String> words = new ArrayList<>();
        private final List<Integer> places = new ArrayList<>();
        private final int length;

        Reader(String text) {
            Matcher found = Pattern.compile("[a-z]+|[0-9]+|[^ ]", Pattern.DOTALL).matcher(text);
            while (found.find()) {
                words.add(found.group());
                places.add(found.start());
            }
            length = text.length();
        }

        /** Null, or the FAULT and its byte. */
        int[] read(List<int[]> made) {
            int w = 0;
            while (w < words.size()) {
                int furthest = w;
                boolean numberFault = false;
                int[] clause = null;
                int used = 0;
                for (int f = 0; f < FORMS.length; f++) {
                    String[] form = FORMS[f].split(" ");
                    int ok = 0;
                    while (ok < form.length && w + ok < words.size() && fits(words.get(w + ok), form[ok])) {
                        ok++;
                    }
                    if (ok == form.length) {
                        clause = clauseOf(f, form, w);
                        used = ok;
                    } else {
                        boolean badNumber = w + ok < words.size() && form[ok].contains("..")
                            && Character.isDigit(words.get(w + ok).charAt(0)) && words.get(w + ok).charAt(0) < 128;
                        if (w + ok > furthest) {
                            furthest = w + ok;
                            numberFault = badNumber;
                        } else if (w + ok == furthest) {
                            numberFault |= badNumber;
                        }
                    }
                }
                int first = w < places.size() ? places.get(w) : length;
                if (made.size() == 8) {
                    boolean begins = words.get(w).matches("never|most|always");
                    return new int[] {begins ? 3 : 1, first};
                }
                if (clause == null) {
                    return new int[] {numberFault ? 2 : 1, furthest < places.size() ? places.get(furthest) : length};
                }
                made.add(clause);
                w += used;
            }
            return null;
        }

        private int[] clauseOf(int f, String[] form, int w) {
            int[] clause = new int[4];
            clause[0] = KINDS.charAt(f);
            int at = 1;
            for (int i = 0; i < form.length; i++) {
                if (form[i].contains("..")) {
                    clause[at] = Integer.parseInt(words.get(w + i));
                    at++;
                }
            }
            return clause;
        }

        private static boolean fits(String word, String form) {
            if (!form.contains("..")) {
                return word.equals(form);
            }
            if (!word.matches("[0-9]{1,3}")) {
                return false;
            }
            int split = form.indexOf("..");
            int v = Integer.parseInt(word);
            return v >= Integer.parseInt(form.substring(0, split)) && v <= Integer.parseInt(form.substring(split + 2));
        }
    }
}
