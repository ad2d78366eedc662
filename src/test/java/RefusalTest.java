import java.io.IOException;
import java.nio.file.Files;
import java.nio.file.Path;
import java.util.ArrayList;
import java.util.List;
import java.util.Map;
import java.util.TreeMap;
import java.util.TreeSet;
import java.util.regex.Matcher;
import java.util.regex.Pattern;

/**
 * Every refusal of every promise: each number at its bounds and just behind them,
 * the order of refusals, and that what is refused changes nothing.
 */
public final class RefusalTest {
    private static final int NONE = -1, UNKNOWN = -1001, OUTSIDE = -1002, NOT = -1003, FULL = -1004;
    private static final Map<Integer, String> NAMES =
        Map.of(UNKNOWN, "UNKNOWN", OUTSIDE, "OUTSIDE", NOT, "NOT", FULL, "FULL");
    private static final int MILLION = 1000000;

    private interface Call {
        int on(WhenToSpeak x);
    }

    private interface CallWith {
        int on(WhenToSpeak x, int v);
    }

    private interface Maker {
        WhenToSpeak make();
    }

    private static Sheet sheet;
    private static int promise;
    private static final Map<Integer, TreeSet<String>> SEEN = new TreeMap<>();

    public static void main(String[] args) throws IOException {
        sheet = new Sheet();
        work();
        looks();
        things();
        ways();
        laws();
        plans();
        sayings();
        several();
        notNow();
        noRoom();
        order();
        everyPromise();
        sheet.end();
    }

    private static void promise(int number, String quote) {
        promise = number;
        sheet.says(quote);
    }

    /** A refused call, in a scene; a second object without that call must answer all else alike. */
    private static void refused(String call, int want, Maker scene, Call c) {
        WhenToSpeak x = scene.make();
        sheet.due(call, c.on(x), want);
        SEEN.computeIfAbsent(promise, n -> new TreeSet<>()).add(NAMES.get(want));
        List<Integer> with = witness(x);
        List<Integer> without = witness(scene.make());
        for (int i = 0; i < with.size(); i++) {
            if (!with.get(i).equals(without.get(i))) {
                sheet.expect(false, call + " changed what witness " + i + " answers: " + with.get(i) + " for " + without.get(i));
                return;
            }
        }
        sheet.expect(true, "");
    }

    /** A number that is good from least to most, and refused on both sides. */
    private static void bounds(String name, int least, int most, int refusal, CallWith c) {
        for (int v : new int[] {least, most}) {
            int got = c.on(Scene.busy(), v);
            sheet.expect(got > -1000, name + " = " + v + " answered " + got);
        }
        for (int v : new int[] {least - 1, most + 1, Integer.MIN_VALUE, Integer.MAX_VALUE}) {
            refused(name + " = " + v, refusal, Scene::busy, x -> c.on(x, v));
        }
    }

    /** All that an object can be asked for, in fewer than 400 calls. */
    private static List<Integer> witness(WhenToSpeak x) {
        List<Integer> all = new ArrayList<>();
        for (int what = 0; what < 8; what++) {
            all.add(x.count(what));
            for (int t = 0; t < 10; t++) {
                if (what > 3 || t < 6) {
                    all.add(x.told(t, what));
                }
            }
        }
        for (int what = 0; what < 6; what++) {
            for (int s : new int[] {0, 1, 2, 3, 4, 39}) {
                all.add(x.saying(s, what));
            }
            all.add(x.learnt(0, 1, what));
        }
        all.add(x.fault());
        for (int p = 0; p < 4; p++) {
            witnessOf(x, p, all);
        }
        for (int t = 0; t < 6; t++) {
            all.add(x.value(t, 0, 1));
            all.add(x.who(t, 0));
            all.add(x.who(t, 1));
        }
        all.add(x.read(1));
        all.add(x.barred(1, 1, 2));
        all.add(x.seams(0));
        for (int i = 0; i < 4; i++) {
            all.add(x.begins(i, 0));
            all.add(x.seen(i, 0));
            for (int j = 0; j < 4; j++) {
                all.add(x.move(i, j, 0));
                all.add(x.shows(i, j, 0));
                all.add(x.cost(i, j, 0));
            }
        }
        return all;
    }

    private static void witnessOf(WhenToSpeak x, int p, List<Integer> all) {
        all.add(x.fits(p, 0));
        all.add(x.fits(p, x.count(0)));
        for (int i = 0; i < 4; i++) {
            all.add(x.odds(p, i, 0));
            all.add(x.odds(p, i, 3));
            all.add(x.barred(p, 2, i));
        }
        all.add(x.seam(p, 1));
        all.add(x.until(p, 400000));
        all.add(x.plan(p, 3, NONE, 0));
        for (int step = 0; step < 3; step++) {
            all.add(x.plan(p, 3, step, 0));
            all.add(x.plan(p, 3, step, 1));
        }
        for (int what = 0; what < 4; what++) {
            all.add(x.tried(p, 400000, 1, what));
        }
        all.add(x.loss(p, 1, 2));
    }

    // ---- work, signs

    private static void work() {
        promise(2, "GO (i, j) becomes v: what it was. OUTSIDE.");
        bounds("move, i", 0, 3, OUTSIDE, (x, v) -> x.move(v, 1, 2));
        bounds("move, j", 0, 3, OUTSIDE, (x, v) -> x.move(1, v, 2));
        bounds("move, v", 0, 4, OUTSIDE, (x, v) -> x.move(1, 2, v));
        promise(3, "SHOWS (i, s) becomes v: what it was. OUTSIDE.");
        bounds("shows, i", 0, 3, OUTSIDE, (x, v) -> x.shows(v, 1, 2));
        bounds("shows, s", 0, 3, OUTSIDE, (x, v) -> x.shows(1, v, 2));
        bounds("shows, v", 0, 4, OUTSIDE, (x, v) -> x.shows(1, 2, v));
        promise(4, "BEGINS (i) becomes v: what it was. OUTSIDE.");
        bounds("begins, i", 0, 3, OUTSIDE, (x, v) -> x.begins(v, 3));
        bounds("begins, v", 0, 4, OUTSIDE, (x, v) -> x.begins(1, v));
        promise(5, "SEAMS become a SET: what they were. OUTSIDE.");
        bounds("seams, set", 0, 15, OUTSIDE, (x, v) -> x.seams(v));
        promise(6, "The SIGN of a PERSON in NOW (NONE: BLANK; the last one told holds): 1. UNKNOWN, OUTSIDE.");
        bounds("sign, p", 0, 3, UNKNOWN, (x, v) -> x.sign(v, 3));
        bounds("sign, s", NONE, 3, OUTSIDE, (x, v) -> x.sign(3, v));
        promise(7, "NOW goes on by n TICKS (0 .. 20): NOW. OUTSIDE;");
        bounds("go, n", 0, 20, OUTSIDE, (x, v) -> x.go(v));
    }

    private static void looks() {
        promise(8, "FITS at a TICK (0 .. NOW). UNKNOWN, OUTSIDE.");
        bounds("fits, p", 0, 3, UNKNOWN, (x, v) -> x.fits(v, 5));
        bounds("fits, t", 0, Scene.BUSY_NOW, OUTSIDE, (x, v) -> x.fits(2, v));
        promise(9, "ODDS of STATE i of a PERSON now, ahead by k (0 .. 8). UNKNOWN, OUTSIDE.");
        bounds("odds, p", 0, 3, UNKNOWN, (x, v) -> x.odds(v, 1, 2));
        bounds("odds, i", 0, 3, OUTSIDE, (x, v) -> x.odds(1, v, 2));
        bounds("odds, k", 0, 8, OUTSIDE, (x, v) -> x.odds(1, 2, v));
        promise(10, "SEAM ODDS now, ahead by k. UNKNOWN, OUTSIDE.");
        bounds("seam, p", 0, 3, UNKNOWN, (x, v) -> x.seam(v, 2));
        bounds("seam, k", 0, 8, OUTSIDE, (x, v) -> x.seam(1, v));
        promise(11, "UNTIL for h (0 .. 1000000); NONE: not by 8. UNKNOWN, OUTSIDE.");
        bounds("until, p", 0, 3, UNKNOWN, (x, v) -> x.until(v, 500000));
        bounds("until, h", 0, MILLION, OUTSIDE, (x, v) -> x.until(1, v));
    }

    // ---- things, ways

    private static void things() {
        promise(12, "A THING: its number. UNKNOWN (bits of other PERSONS; none), OUTSIDE, FULL.");
        bounds("thing, persons", 1, 15, UNKNOWN, (x, v) -> x.thing(v, 1, 1, 1, 1, 1, 20));
        refused("thing, a good bit and a bad one", UNKNOWN, Scene::busy, x -> x.thing(1 | 16, 1, 1, 1, 1, 1, 20));
        refused("thing, bit 31", UNKNOWN, Scene::busy, x -> x.thing(Integer.MIN_VALUE | 3, 1, 1, 1, 1, 1, 20));
        bounds("thing, kind", 0, 3, OUTSIDE, (x, v) -> x.thing(1, v, 1, 1, 1, 1, 20));
        bounds("thing, matter", 0, 5, OUTSIDE, (x, v) -> x.thing(1, 1, v, 1, 1, 1, 20));
        bounds("thing, from", 0, 9, OUTSIDE, (x, v) -> x.thing(1, 1, 1, v, 1, 1, 20));
        bounds("thing, worth", 0, 999, OUTSIDE, (x, v) -> x.thing(1, 1, 1, 1, v, 1, 20));
        bounds("thing, less", 0, 99, OUTSIDE, (x, v) -> x.thing(1, 1, 1, 1, 1, v, 20));
        bounds("thing, clock", Scene.BUSY_NOW, 60, OUTSIDE, (x, v) -> x.thing(1, 1, 1, 1, 1, 1, v));
        promise(13, "A THING is DEAD: in how many SAYINGS it is to be taken back. UNKNOWN; NOT: it is DEAD.");
        bounds("dead, t", 0, Scene.BUSY_THINGS - 1, UNKNOWN, (x, v) -> x.dead(v));
        promise(14, "7 the TICK of thing(). UNKNOWN, OUTSIDE.");
        bounds("told, t", 0, Scene.BUSY_THINGS - 1, UNKNOWN, (x, v) -> x.told(v, 4));
        bounds("told, what", 0, 7, OUTSIDE, (x, v) -> x.told(1, v));
        promise(15, "VALUE of a THING for a PERSON ahead by k TICKS (0 .. 8). UNKNOWN, OUTSIDE.");
        bounds("value, t", 0, Scene.BUSY_THINGS - 1, UNKNOWN, (x, v) -> x.value(v, 1, 2));
        bounds("value, p", 0, 3, UNKNOWN, (x, v) -> x.value(1, v, 2));
        bounds("value, k", 0, 8, OUTSIDE, (x, v) -> x.value(1, 1, v));
    }

    private static void ways() {
        promise(16, "COST of a WAY in a STATE becomes v: what it was. OUTSIDE.");
        bounds("cost, way", 0, 3, OUTSIDE, (x, v) -> x.cost(v, 1, 2));
        bounds("cost, state", 0, 3, OUTSIDE, (x, v) -> x.cost(1, v, 2));
        bounds("cost, v", 0, 999, OUTSIDE, (x, v) -> x.cost(1, 2, v));
        promise(17, "SEEN of a WAY becomes v: what it was. OUTSIDE.");
        bounds("seen, way", 0, 3, OUTSIDE, (x, v) -> x.seen(v, 2));
        bounds("seen, v", 0, 100, OUTSIDE, (x, v) -> x.seen(1, v));
        promise(18, "LOSS of a WAY for a PERSON ahead by k. UNKNOWN, OUTSIDE.");
        bounds("loss, p", 0, 3, UNKNOWN, (x, v) -> x.loss(v, 1, 2));
        bounds("loss, way", 0, 3, OUTSIDE, (x, v) -> x.loss(1, v, 2));
        bounds("loss, k", 0, 8, OUTSIDE, (x, v) -> x.loss(1, 2, v));
        promise(19, "5 LATE, 6 SAYINGS, 7 bytes of THE TEXT. OUTSIDE.");
        bounds("count, what", 0, 7, OUTSIDE, (x, v) -> x.count(v));
    }

    // ---- laws

    private static void laws() {
        promise(20, "come behind THE TEXT: how many it has. OUTSIDE, FULL.");
        bounds("feed, n", 1, 8, OUTSIDE, (x, v) -> x.feed(v, 0x2020202020202020L));
        promise(21, "UNKNOWN (THE TEXT stays).");
        bounds("read, p", 0, 3, UNKNOWN, (x, v) -> x.read(v));
        promise(23, "3 most (the first of these). UNKNOWN (bits; none), OUTSIDE.");
        int all = (1 << Scene.BUSY_THINGS) - 1;
        bounds("barred, p", 0, 3, UNKNOWN, (x, v) -> x.barred(v, 1, 2));
        bounds("barred, set", 1, all, UNKNOWN, (x, v) -> x.barred(1, v, 2));
        refused("barred, a good bit and a bad one", UNKNOWN, Scene::busy, x -> x.barred(1, 1 | all + 1, 2));
        refused("barred, bit 31", UNKNOWN, Scene::busy, x -> x.barred(1, Integer.MIN_VALUE | 1, 2));
        bounds("barred, way", 0, 3, OUTSIDE, (x, v) -> x.barred(1, 1, v));
    }

    // ---- plans

    private static void plans() {
        promise(24, "0 the SET of THINGS (0: nothing), 1 the WAY (NONE). UNKNOWN, OUTSIDE.");
        bounds("plan, p", 0, 3, UNKNOWN, (x, v) -> x.plan(v, 3, 1, 0));
        bounds("plan, n", 1, 6, OUTSIDE, (x, v) -> x.plan(1, v, 0, 0));
        bounds("plan, n, for i = NONE", 1, 6, OUTSIDE, (x, v) -> x.plan(1, v, NONE, 0));
        for (int n = 1; n <= 6; n++) {
            int steps = n;
            bounds("plan, i of " + n, NONE, n - 1, OUTSIDE, (x, v) -> x.plan(1, steps, v, 1));
        }
        bounds("plan, what", 0, 1, OUTSIDE, (x, v) -> x.plan(1, 3, 0, v));
        bounds("plan, what, for i = NONE", 0, 1, OUTSIDE, (x, v) -> x.plan(1, 3, NONE, v));
    }

    // ---- sayings

    private static void sayings() {
        int all = (1 << Scene.BUSY_THINGS) - 1;
        promise(25, "A SAYING in NOW: its number. UNKNOWN (PERSON; bits; none), OUTSIDE,");
        bounds("say, p", 0, 3, UNKNOWN, (x, v) -> x.say(v, 1, 1));
        refused("say, none", UNKNOWN, Scene::busy, x -> x.say(0, 0, 1));
        refused("say, a THING that there is not", UNKNOWN, Scene::busy, x -> x.say(0, all + 1, 1));
        refused("say, a good bit and a bad one", UNKNOWN, Scene::busy, x -> x.say(0, 1 | all + 1, 1));
        refused("say, all bits", UNKNOWN, Scene::busy, x -> x.say(0, -1, 1));
        refused("say, bit 31", UNKNOWN, Scene::busy, x -> x.say(0, Integer.MIN_VALUE | 1, 1));
        // PERSON 0 has a law against WAY 3.
        bounds("say, way", 0, 3, OUTSIDE, (x, v) -> x.say(1, 1, v));
        promise(26, "What came of a SAYING (1 .. 3): what was told of it till then. UNKNOWN, OUTSIDE,");
        sheet.due("came of the last", Scene.busy().came(Scene.BUSY_SAYINGS - 1, 1), 0);
        for (int s : new int[] {-1, Scene.BUSY_SAYINGS, 40, Integer.MIN_VALUE, Integer.MAX_VALUE}) {
            refused("came, s = " + s, UNKNOWN, Scene::busy, x -> x.came(s, 1));
        }
        bounds("came, what", 1, 3, OUTSIDE, (x, v) -> x.came(4, v));
        promise(27, "4 what came of it, 5 the SET of THINGS to be taken back. UNKNOWN, OUTSIDE.");
        bounds("saying, s", 0, Scene.BUSY_SAYINGS - 1, UNKNOWN, (x, v) -> x.saying(v, 1));
        bounds("saying, what", 0, 5, OUTSIDE, (x, v) -> x.saying(1, v));
        promise(28, "5 the lower number of CHANCE. OUTSIDE (a alike b, too), NOT (of 4, 5).");
        bounds("learnt, a", 0, 3, OUTSIDE, (x, v) -> x.learnt(v, 1, 4));
        bounds("learnt, b", 0, 3, OUTSIDE, (x, v) -> x.learnt(1, v, 5));
        bounds("learnt, what", 0, 5, OUTSIDE, (x, v) -> x.learnt(1, 2, v));
        for (int way = 0; way < 4; way++) {
            int alike = way;
            for (int what = 0; what < 6; what++) {
                int w = what;
                refused("learnt, a alike b", OUTSIDE, Scene::busy, x -> x.learnt(alike, alike, w));
            }
        }
    }

    // ---- several, tried

    private static void several() {
        promise(29, "FIRST (what = 0), NEXT (1) for a THING; NONE. UNKNOWN, OUTSIDE.");
        bounds("who, t", 0, Scene.BUSY_THINGS - 1, UNKNOWN, (x, v) -> x.who(v, 0));
        bounds("who, what", 0, 1, OUTSIDE, (x, v) -> x.who(1, v));
        promise(30, "2 PAID, 3 how many are said. UNKNOWN, OUTSIDE.");
        bounds("tried, p", 0, 3, UNKNOWN, (x, v) -> x.tried(v, 5, 1, 0));
        bounds("tried, h", 0, MILLION, OUTSIDE, (x, v) -> x.tried(1, v, 1, 0));
        bounds("tried, way", 0, 3, OUTSIDE, (x, v) -> x.tried(1, 5, v, 2));
        bounds("tried, what", 0, 3, OUTSIDE, (x, v) -> x.tried(1, 5, 1, v));
    }

    // ---- NOT and FULL

    private static void notNow() {
        promise(7, "NOT: it would be above 60.");
        refused("go(1) at 60", NOT, Scene::full, x -> x.go(1));
        refused("go(20) at 60", NOT, Scene::full, x -> x.go(20));
        refused("go(20) at 41", NOT, () -> at(41), x -> x.go(20));
        sheet.due("go(20) at 40", at(40).go(20), 60);
        sheet.due("go(0) at 60", at(60).go(0), 60);
        promise(13, "NOT: it is DEAD.");
        refused("dead of a DEAD one", NOT, Scene::busy, x -> x.dead(4));
        refused("dead of a DEAD one", NOT, Scene::full, x -> x.dead(8));
        promise(25, "NOT: it is not LET, or one of its THINGS is DEAD, or not for that PERSON, or they are of unlike MATTERS;");
        refused("say, the WAY is barred", NOT, Scene::busy, x -> x.say(0, 1, 3));
        refused("say, a KIND is barred", NOT, () -> withLaw("never kind 3 after 11;"), x -> x.say(0, 1, 0));
        refused("say, most bars it", NOT, () -> withLaw("most 2 in 7;"), x -> x.say(0, 1, 0));
        refused("say, a DEAD one", NOT, Scene::busy, x -> x.say(2, 16, 0));
        refused("say, a DEAD one of two", NOT, Scene::busy, x -> x.say(0, 48, 0));
        refused("say, not for that PERSON", NOT, Scene::busy, x -> x.say(3, 8, 0));
        refused("say, one of two not for that PERSON", NOT, Scene::busy, x -> x.say(1, 3, 0));
        refused("say, unlike MATTERS", NOT, Scene::busy, x -> x.say(0, 9, 0));
        promise(26, "NOT: it was told already.");
        for (int s = 0; s < 3; s++) {
            for (int what = 1; what <= 3; what++) {
                int told = s;
                int again = what;
                refused("came, " + s + " again", NOT, Scene::busy, x -> x.came(told, again));
            }
        }
        promise(28, "NOT (of 4, 5).");
        refused("learnt of 31, 4", NOT, RefusalTest::thirtyOne, x -> x.learnt(0, 1, 4));
        refused("learnt of 31, 5", NOT, RefusalTest::thirtyOne, x -> x.learnt(0, 1, 5));
        for (int what = 0; what < 4; what++) {
            sheet.expect(thirtyOne().learnt(0, 1, what) >= 0, "learnt of 31, " + what + " is refused");
        }
    }

    private static void noRoom() {
        promise(12, "OUTSIDE, FULL.");
        refused("an eleventh THING", FULL, Scene::full, x -> x.thing(1, 0, 0, 0, 0, 0, 60));
        promise(20, "OUTSIDE, FULL.");
        for (int n = 1; n <= 8; n++) {
            int bytes = n;
            refused("a byte behind 160", FULL, Scene::full, x -> x.feed(bytes, 0x2020202020202020L));
            refused("161 bytes", FULL, () -> withBytes(161 - bytes), x -> x.feed(bytes, 0x2020202020202020L));
            sheet.due("160 bytes", withBytes(160 - bytes).feed(bytes, 0x2020202020202020L), 160);
        }
        promise(25, "or they are of unlike MATTERS; FULL.");
        refused("a forty-first SAYING", FULL, Scene::full, x -> x.say(1, 1, 1));
    }

    private static WhenToSpeak at(int tick) {
        WhenToSpeak x = new WhenToSpeak();
        Scene.goTo(x, tick);
        return x;
    }

    private static WhenToSpeak withLaw(String text) {
        WhenToSpeak x = Scene.busy();
        x.read(3);
        sheet.due("read of <" + text + ">", Scene.law(x, 0, text), 1);
        return x;
    }

    private static WhenToSpeak withBytes(int n) {
        WhenToSpeak x = new WhenToSpeak();
        Scene.feed(x, ("always from 7;" + " ".repeat(160)).substring(0, n));
        return x;
    }

    private static WhenToSpeak thirtyOne() {
        WhenToSpeak x = new WhenToSpeak();
        x.thing(1, 1, 0, 0, 1, 0, 60);
        Scene.tellOutcomes(x, 0, 9, 7);
        Scene.tellOutcomes(x, 1, 5, 10);
        return x;
    }

    // ---- the order of refusals

    private static void order() {
        promise = 0;
        sheet.says("REFUSALS, of several the first in this order: UNKNOWN (a PERSON, THING, SAYING that there is not), "
            + "OUTSIDE (another number out of its bounds), NOT (not now, as told), FULL.");
        Call[] unknown = {
            x -> x.sign(4, 4), x -> x.fits(4, 61), x -> x.odds(-1, 4, 9), x -> x.odds(-1, 0, 9), x -> x.seam(4, 9),
            x -> x.until(4, -1), x -> x.thing(16, 4, 0, 0, 0, 0, 60), x -> x.thing(0, 0, 0, 0, 0, 0, 59), x -> x.thing(16, 0, 0, 0, 0, 0, 60),
            x -> x.told(10, 8), x -> x.value(10, 0, 9), x -> x.value(0, 4, 9), x -> x.value(10, 4, -1), x -> x.loss(4, 4, 0),
            x -> x.loss(4, 0, 9), x -> x.barred(4, 1, 4), x -> x.barred(0, 0, 4), x -> x.barred(0, 1024, 4), x -> x.plan(4, 7, 0, 0),
            x -> x.plan(4, 1, 1, 0), x -> x.plan(4, 1, 0, 2), x -> x.say(4, 1, 4), x -> x.say(0, 0, 4), x -> x.say(0, 1024, 4),
            x -> x.say(4, 256, 0), x -> x.say(0, 256 | 1024, 0), x -> x.say(4, 1, 0), x -> x.say(0, 0, 0), x -> x.came(40, 4),
            x -> x.came(-1, 0), x -> x.saying(40, 6), x -> x.who(10, 2), x -> x.tried(4, -1, 0, 0), x -> x.tried(4, 0, 4, 0),
            x -> x.tried(4, 0, 0, 4)};
        for (int i = 0; i < unknown.length; i++) {
            refused("UNKNOWN ahead of others, " + i, UNKNOWN, Scene::full, unknown[i]);
        }
        Call[] outside = {
            x -> x.go(21), x -> x.go(-1), x -> x.thing(1, 4, 0, 0, 0, 0, 60), x -> x.thing(1, 0, 0, 0, 0, 0, 59),
            x -> x.thing(1, 0, 0, 0, 0, 0, 61), x -> x.feed(9, 0), x -> x.feed(0, 0), x -> x.say(0, 256, 4), x -> x.say(3, 512, -1),
            x -> x.say(0, 3, 4), x -> x.say(3, 1, 4), x -> x.say(0, 1, 4), x -> x.came(0, 4), x -> x.came(0, 0)};
        for (int i = 0; i < outside.length; i++) {
            refused("OUTSIDE ahead of NOT and FULL, " + i, OUTSIDE, Scene::full, outside[i]);
        }
        Call[] not = {x -> x.say(0, 256, 0), x -> x.say(3, 512, 1), x -> x.say(0, 3, 0), x -> x.say(3, 1, 0)};
        for (int i = 0; i < not.length; i++) {
            refused("NOT ahead of FULL, " + i, NOT, Scene::full, not[i]);
        }
        for (int what : new int[] {-1, 6}) {
            refused("learnt of 31, " + what, OUTSIDE, RefusalTest::thirtyOne, x -> x.learnt(0, 1, what));
        }
    }

    /** What the document tells of refusals, promise by promise, is what was met above. */
    private static void everyPromise() throws IOException {
        sheet.says("What is refused changes nothing.");
        String text = Files.readString(Path.of(Sheet.DOCUMENT));
        Matcher part = Pattern.compile("(?s)## Promise (\\d+): .*?(?=\n## )").matcher(text);
        int found = 0;
        while (part.find()) {
            found++;
            int number = Integer.parseInt(part.group(1));
            TreeSet<String> due = new TreeSet<>();
            Matcher word = Pattern.compile("\\b(UNKNOWN|OUTSIDE|NOT|FULL)\\b").matcher(part.group());
            while (word.find()) {
                due.add(word.group());
            }
            // It names a refusal of read() only.
            if (number == 22) {
                due.clear();
            }
            TreeSet<String> met = SEEN.getOrDefault(number, new TreeSet<>());
            sheet.expect(met.equals(due), "promise " + number + " tells of " + due + ", met were " + met);
        }
        sheet.due("promises", found, 30);
    }
}
