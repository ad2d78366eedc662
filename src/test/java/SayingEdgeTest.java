import java.io.IOException;

/** Part 5 of the document, and promises 25 to 30: SAYINGS, what is LEARNT, who is told, a rule TRIED. */
public final class SayingEdgeTest {
    private static final int NONE = -1, UNKNOWN = -1001, OUTSIDE = -1002, NOT = -1003, FULL = -1004;
    private static final int MILLION = 1000000;

    private static Sheet sheet;

    public static void main(String[] args) throws IOException {
        sheet = new Sheet();
        forty();
        whats();
        refusedSayings();
        outcomes();
        takenBack();
        learntOf();
        thirty();
        chances();
        first();
        next();
        rules();
        goneTicks();
        deadOrNot();
        toldByThen();
        mustOnes();
        lateOnes();
        waited();
        paid();
        sheet.end();
    }

    private static void due(String call, int got, int want) {
        sheet.due(call, got, want);
    }

    private static WhenToSpeak withThing(int kind, int clock) {
        WhenToSpeak x = new WhenToSpeak();
        x.thing(15, kind, 0, 0, 1, 0, clock);
        return x;
    }

    private static void forty() {
        sheet.says("SAYINGS (40 at most) are told in NOW to a PERSON:");
        WhenToSpeak x = withThing(1, 60);
        x.thing(15, 1, 0, 0, 1, 0, 60);
        for (int s = 0; s < 40; s++) {
            due("not yet there", x.saying(s, 0), UNKNOWN);
            due("SAYING " + s, x.say(s % 4, 1 + s % 3, s / 4 % 4), s);
            due("PERSON", x.saying(s, 0), s % 4);
            due("SET", x.saying(s, 1), 1 + s % 3);
            due("WAY", x.saying(s, 2), s / 4 % 4);
            due("TICK", x.saying(s, 3), s);
            x.go(1);
        }
        due("a forty-first", x.say(0, 1, 0), FULL);
        due("forty", x.count(6), 40);
        due("SAYING 40", x.saying(40, 0), UNKNOWN);
        due("the first is as it was", x.saying(0, 3), 0);
        due("the last can be told of", x.came(39, 1), 0);
        due("there is no SAYING 40 to tell of", x.came(40, 1), UNKNOWN);
    }

    private static void whats() {
        sheet.says("Of a SAYING: what = 0 PERSON, 1 SET, 2 WAY, 3 TICK, 4 what came of it, 5 the SET of THINGS to be taken back.");
        WhenToSpeak x = withThing(1, 60);
        x.thing(15, 1, 0, 0, 1, 0, 60);
        x.say(0, 1, 3);
        Scene.goTo(x, 60);
        x.say(3, 3, 0);
        x.came(1, 2);
        x.dead(1);
        int[][] want = {{0, 1, 3, 0, 0, 0}, {3, 3, 0, 60, 2, 2}};
        for (int s = 0; s < 2; s++) {
            for (int what = 0; what < 6; what++) {
                due("saying(" + s + ", " + what + ")", x.saying(s, what), want[s][what]);
            }
            due("saying(" + s + ", 6)", x.saying(s, 6), OUTSIDE);
            due("saying(" + s + ", -1)", x.saying(s, -1), OUTSIDE);
        }
        sheet.says("what came of one is told later:");
        x.came(0, 1);
        due("told in another TICK", x.saying(0, 4), 1);
        due("its TICK stays", x.saying(0, 3), 0);
        sheet.says("LEARNT: what = 0 x, 1 m, 2 y, 3 n, 4 the upper, 5 the lower number of CHANCE.");
        int[] learnt = {1, 1, 0, 1, 1, 2};
        for (int what = 0; what < 6; what++) {
            due("learnt(3, 0, " + what + ")", x.learnt(3, 0, what), learnt[what]);
        }
        sheet.says("TRIED: what = 0 LATE ones, 1 WAITED, 2 PAID, 3 how many are said.");
        WhenToSpeak y = withThing(0, 5);
        y.thing(15, 1, 0, 0, 1, 0, 2);
        y.thing(15, 3, 0, 0, 1, 0, 7);
        y.go(9);
        int[] tried = {1, 12, 16, 2};
        for (int what = 0; what < 4; what++) {
            due("tried(2, 1, 0, " + what + ")", y.tried(2, 1, 0, what), tried[what]);
        }
    }

    private static void refusedSayings() {
        sheet.says("UNKNOWN (PERSON; bits; none), OUTSIDE, NOT: it is not LET, or one of its THINGS is DEAD, "
            + "or not for that PERSON, or they are of unlike MATTERS; FULL.");
        WhenToSpeak x = new WhenToSpeak();
        due("no THINGS at all", x.say(0, 1, 0), UNKNOWN);
        due("none", x.say(0, 0, 0), UNKNOWN);
        x.thing(1, 1, 0, 0, 1, 0, 0);
        x.thing(3, 1, 0, 0, 1, 0, 60);
        x.thing(3, 1, 5, 0, 1, 0, 60);
        for (int bit = 3; bit < 32; bit++) {
            due("bit " + bit, x.say(0, 1 << bit, 0), UNKNOWN);
            due("bit " + bit + " and good ones", x.say(0, 1 << bit | 3, 0), UNKNOWN);
        }
        due("not for PERSON 1", x.say(1, 1, 0), NOT);
        due("one of two not for PERSON 1", x.say(1, 3, 0), NOT);
        due("unlike MATTERS", x.say(0, 6, 0), NOT);
        due("the first and the last unlike", x.say(0, 7, 0), NOT);
        Scene.law(x, 0, "never way 3;");
        due("not LET", x.say(0, 1, 3), NOT);
        due("none was said", x.count(6), 0);
        due("LET", x.say(0, 3, 2), 0);
        x.go(1);
        due("LATE and TOLD ones may be said", x.say(0, 1, 0), 1);
        x.dead(0);
        due("DEAD", x.say(0, 1, 0), NOT);
        due("one of two is DEAD", x.say(0, 3, 0), NOT);
        due("the other", x.say(0, 2, 0), 2);
    }

    private static void outcomes() {
        sheet.says("1 looked at, 2 put by, 3 wiped (0: not yet).");
        WhenToSpeak x = withThing(1, 60);
        for (int what = 1; what <= 3; what++) {
            int s = x.say(0, 1, what);
            due("not yet", x.saying(s, 4), 0);
            due("came(" + s + ", 0)", x.came(s, 0), OUTSIDE);
            due("came(" + s + ", 4)", x.came(s, 4), OUTSIDE);
            due("still not", x.saying(s, 4), 0);
            due("came(" + s + ", " + what + ")", x.came(s, what), 0);
            due("what came", x.saying(s, 4), what);
            due("looked at", x.learnt(what, 0, 0), what == 1 ? 1 : 0);
            due("told of", x.learnt(what, 0, 1), 1);
        }
        sheet.says("What came of a SAYING (1 .. 3): what was told of it till then.");
        int s = x.say(3, 1, 0);
        due("nothing till then", x.came(s, 3), 0);
        sheet.says("NOT: it was told already.");
        for (int what = 1; what <= 3; what++) {
            due("told already", x.came(s, what), NOT);
            due("it stays", x.saying(s, 4), 3);
        }
    }

    private static void takenBack() {
        sheet.says("THINGS DEAD behind a SAYING of them are to be taken back from it.");
        WhenToSpeak x = withThing(1, 60);
        x.thing(15, 1, 0, 0, 1, 0, 60);
        x.thing(15, 1, 0, 0, 1, 0, 60);
        x.say(0, 7, 0);
        x.say(1, 2, 0);
        x.came(1, 3);
        due("nothing", x.saying(0, 5), 0);
        due("in one", x.dead(0), 1);
        due("THING 0", x.saying(0, 5), 1);
        due("not of that one", x.saying(1, 5), 0);
        due("in two", x.dead(1), 2);
        due("THINGS 0 and 1", x.saying(0, 5), 3);
        due("of a wiped one too", x.saying(1, 5), 2);
        x.say(2, 4, 0);
        due("nothing", x.saying(2, 5), 0);
        due("in two", x.dead(2), 2);
        due("all three", x.saying(0, 5), 7);
        due("THING 2", x.saying(2, 5), 4);
        due("the SET stays", x.saying(0, 1), 7);
        WhenToSpeak y = new WhenToSpeak();
        for (int t = 0; t < 10; t++) {
            y.thing(1, 1, 0, 0, 1, 0, 60);
        }
        y.say(0, 1023, 0);
        y.dead(9);
        due("THING 9", y.saying(0, 5), 512);
    }

    private static void learntOf() {
        sheet.says("LEARNT of WAYS a, b (of all SAYINGS told what came of):");
        WhenToSpeak x = withThing(1, 60);
        for (int what = 0; what < 4; what++) {
            due("nothing is told of", x.learnt(0, 1, what), 0);
        }
        x.say(0, 1, 2);
        due("not told of", x.learnt(2, 3, 1), 0);
        x.came(0, 1);
        due("x", x.learnt(2, 3, 0), 1);
        due("m", x.learnt(2, 3, 1), 1);
        due("y", x.learnt(2, 3, 2), 0);
        due("n", x.learnt(2, 3, 3), 0);
        for (int p = 0; p < 4; p++) {
            x.came(x.say(p, 1, 3), 1 + p % 3);
        }
        due("of all PERSONS, x", x.learnt(3, 2, 0), 2);
        due("of all PERSONS, m", x.learnt(3, 2, 1), 4);
        due("y of the other", x.learnt(3, 2, 2), 1);
        due("n of the other", x.learnt(3, 2, 3), 1);
        x.dead(0);
        due("of DEAD ones too", x.learnt(3, 2, 1), 4);
        sheet.says("OUTSIDE (a alike b, too), NOT (of 4, 5).");
        for (int way = 0; way < 4; way++) {
            due("alike", x.learnt(way, way, 0), OUTSIDE);
        }
    }

    private static void thirty() {
        sheet.says("looked at by a in x of m, by b in y of n (30 at most together; else NOT):");
        WhenToSpeak x = withThing(1, 60);
        Scene.tellOutcomes(x, 0, 10, 5);
        Scene.tellOutcomes(x, 1, 0, 15);
        // 15 over 10 by 30 over 10: 3003 of 30045015.
        due("30: the upper", x.learnt(0, 1, 4), 1);
        due("30: the lower", x.learnt(0, 1, 5), 10005);
        due("one that is not told of", x.say(0, 1, 0), 30);
        due("does not count", x.learnt(0, 1, 5), 10005);
        x.came(30, 2);
        int[] want = {10, 16, 0, 15, NOT, NOT};
        for (int what = 0; what < 6; what++) {
            due("31, " + what, x.learnt(0, 1, what), want[what]);
            due("31 the other way round", x.learnt(1, 0, what), what < 4 ? want[(what + 2) % 4] : NOT);
        }
        due("16 with another WAY", x.learnt(0, 2, 4), 1);
        WhenToSpeak y = withThing(1, 60);
        Scene.tellOutcomes(y, 3, 30, 0);
        due("30 and 0", y.learnt(3, 0, 5), 1);
        due("0 and 30", y.learnt(0, 3, 4), 1);
        Scene.tellOutcomes(y, 3, 0, 1);
        due("31 and 0", y.learnt(3, 0, 5), NOT);
        due("0 and 31", y.learnt(0, 3, 4), NOT);
        due("other WAYS", y.learnt(1, 2, 4), 1);
    }

    private static void chance(int x, int m, int y, int n, int upper, int lower) {
        WhenToSpeak o = withThing(1, 60);
        Scene.tellOutcomes(o, 1, x, m - x);
        Scene.tellOutcomes(o, 2, y, n - y);
        String name = x + " of " + m + ", " + y + " of " + n;
        due(name + ", the upper", o.learnt(1, 2, 4), upper);
        due(name + ", the lower", o.learnt(1, 2, 5), lower);
    }

    private static void chances() {
        sheet.says("CHANCE: of all ways to deal x + y among m + n, those with x or more in a, by all.");
        chance(0, 0, 0, 0, 1, 1);
        chance(0, 1, 0, 1, 1, 1);
        chance(1, 1, 0, 1, 1, 2);
        chance(0, 1, 1, 1, 1, 1);
        chance(1, 1, 1, 1, 1, 1);
        chance(3, 3, 0, 0, 1, 1);
        chance(0, 0, 3, 3, 1, 1);
        // 2 and 1 of 3 and 3: 3 * 3 and 1 of 20.
        chance(2, 3, 1, 3, 1, 2);
        chance(3, 3, 0, 3, 1, 20);
        // More is dealt than a has: 3 and 2 of 3 and 3, 3 in a by 3 of 6.
        chance(3, 3, 2, 3, 1, 2);
        chance(2, 3, 3, 3, 1, 1);
        chance(0, 15, 15, 15, 1, 1);
        chance(15, 15, 0, 15, 1, 155117520);
        // All deals but the one with none in a.
        chance(1, 15, 14, 15, 155117519, 155117520);
        chance(29, 29, 0, 1, 1, 30);
        sheet.says("fractions are in least terms, the lower number above 0.");
        // 17 of 70; 6 of 15 is 2 of 5.
        chance(3, 4, 1, 4, 17, 70);
        chance(2, 4, 0, 2, 2, 5);
    }

    private static void first() {
        sheet.says("FIRST for a THING: of PERSONS who can that with the greatest SEAM ODDS now (of like ones the least number);");
        WhenToSpeak x = withThing(1, 60);
        x.thing(10, 1, 0, 0, 1, 0, 60);
        due("all alike, SEAM ODDS of 0", x.who(0, 0), 0);
        due("of 1 and 3", x.who(1, 0), 1);
        x.seams(1);
        due("all alike", x.who(0, 0), 0);
        x.shows(0, 0, 2);
        x.shows(0, 1, 3);
        x.shows(0, 2, 0);
        x.sign(2, 0);
        x.sign(3, 0);
        due("2 and 3 are alike", x.who(0, 0), 2);
        due("3, for 2 can't", x.who(1, 0), 3);
        x.sign(3, 1);
        due("3 is greater", x.who(0, 0), 3);
        x.sign(0, 2);
        x.sign(1, 2);
        x.sign(2, 2);
        x.sign(3, 2);
        due("all are 0", x.who(1, 0), 1);
        x.go(7);
        due("what was seen seven TICKS ago is gone", x.who(0, 0), 0);
        x.say(0, 1, 0);
        due("it stays FIRST when told", x.who(0, 0), 0);
        x.dead(0);
        due("it stays FIRST when DEAD", x.who(0, 0), 0);
    }

    private static void next() {
        sheet.says("NEXT: behind those that had a SAYING of it.");
        WhenToSpeak x = withThing(1, 60);
        x.thing(15, 1, 0, 0, 1, 0, 60);
        x.seams(1);
        x.shows(0, 0, 4);
        x.sign(2, 0);
        due("none had one: as FIRST", x.who(0, 1), 2);
        x.say(2, 1, 0);
        due("then of like ones the least number", x.who(0, 1), 0);
        due("another THING", x.who(1, 1), 2);
        x.say(0, 3, 0);
        x.came(1, 3);
        due("a wiped one was had", x.who(0, 1), 1);
        due("it had this one, too", x.who(1, 1), 2);
        x.say(1, 1, 0);
        due("the last", x.who(0, 1), 3);
        x.say(3, 1, 0);
        sheet.says("FIRST (what = 0), NEXT (1) for a THING; NONE.");
        due("all had one", x.who(0, 1), NONE);
        due("FIRST is still there", x.who(0, 0), 2);
        x.thing(8, 1, 0, 0, 1, 0, 60);
        due("PERSON 3 alone", x.who(2, 1), 3);
        x.say(3, 4, 0);
        due("nobody else can", x.who(2, 1), NONE);
    }

    private static void rules() {
        sheet.says("TRIED: a rule h (0 .. 1000000) and a WAY for a PERSON,");
        WhenToSpeak x = withThing(1, 60);
        x.seams(1);
        x.go(1);
        due("h = 0", x.tried(0, 0, 0, 3), 1);
        due("just h", x.tried(0, 250000, 0, 3), 1);
        due("one more", x.tried(0, 250001, 0, 3), 0);
        due("h at its most", x.tried(0, MILLION, 0, 3), 0);
        Scene.onlyState(x, 0);
        due("h at its most, all on a SEAM", x.tried(3, MILLION, 3, 3), 1);
        x.seams(0);
        due("no SEAMS, h = 0", x.tried(0, 0, 0, 3), 1);
        due("no SEAMS, h = 1", x.tried(0, 1, 0, 3), 0);
    }

    private static void goneTicks() {
        sheet.says("TICKS 0 to NOW - 1 gone through again");
        WhenToSpeak x = withThing(1, 60);
        for (int what = 0; what < 4; what++) {
            due("no TICK is gone", x.tried(0, 0, 0, what), 0);
        }
        x.seams(1);
        Scene.onlyState(x, 1);
        Scene.goes(x, 1, 0, 0, 1, 0);
        Scene.goes(x, 2, 1, 0, 0, 0);
        x.go(2);
        due("NOW is a SEAM, but not gone", x.seam(0, 0), MILLION);
        due("not said", x.tried(0, 1, 0, 3), 0);
        x.go(1);
        due("it is gone", x.tried(0, 1, 0, 3), 1);
        due("said in TICK 2", x.tried(0, 1, 0, 1), 2);
        WhenToSpeak y = withThing(0, 59);
        Scene.goTo(y, 60);
        due("TICK 59 is gone", y.tried(0, 1, 0, 1), 59);
        WhenToSpeak z = withThing(0, 60);
        Scene.goTo(z, 60);
        due("TICK 60 is not", z.tried(0, 1, 0, 3), 0);
        due("nothing is said by it", z.count(6), 0);
    }

    private static void deadOrNot() {
        sheet.says("with THINGS for it as they are (DEAD or not):");
        WhenToSpeak x = withThing(1, 60);
        x.thing(14, 1, 0, 0, 1, 0, 60);
        x.thing(1, 0, 3, 0, 1, 0, 0);
        x.dead(0);
        x.say(0, 4, 0);
        x.go(2);
        due("DEAD, TOLD, LATE: all for it", x.tried(0, 0, 0, 3), 2);
        due("for others", x.tried(1, 0, 0, 3), 2);
        due("LAWS bar nothing", Scene.law(x, 0, "never way 0;most 0 in 60;"), 2);
        due("LAWS bar nothing", x.tried(0, 0, 0, 3), 2);
    }

    private static void toldByThen() {
        sheet.says("in each TICK all those told by then and not yet said are said, if SEAM ODDS then are h or more;");
        WhenToSpeak x = withThing(1, 60);
        x.go(3);
        x.thing(15, 1, 0, 0, 1, 0, 60);
        x.go(1);
        due("TICK 0 and TICK 3", x.tried(0, 0, 0, 3), 2);
        due("each in its own TICK", x.tried(0, 0, 0, 1), 0);
        due("PAID twice", x.tried(0, 0, 0, 2), 16);
        x.thing(15, 1, 0, 0, 1, 0, 60);
        due("not one of NOW", x.tried(0, 0, 0, 3), 2);
        WhenToSpeak y = withThing(1, 60);
        y.seams(1);
        y.shows(0, 0, 4);
        y.shows(1, 0, 0);
        y.shows(2, 0, 0);
        y.shows(3, 0, 0);
        y.go(2);
        y.sign(1, 0);
        y.go(2);
        due("a SEAM in TICK 2", y.tried(1, MILLION, 0, 1), 2);
        due("of PERSON 1 alone", y.tried(0, MILLION, 0, 3), 0);
        due("by what was seen then, not later", y.tried(1, 250001, 0, 1), 2);
    }

    private static void mustOnes() {
        sheet.says("a MUST or TWO one at its CLOCK anyhow.");
        for (int kind = 0; kind < 4; kind++) {
            boolean must = kind == 0 || kind == 3;
            WhenToSpeak x = withThing(kind, 3);
            x.go(3);
            due("its CLOCK is NOW", x.tried(0, 1, 0, 3), 0);
            x.go(1);
            due("its CLOCK is gone", x.tried(0, 1, 0, 3), must ? 1 : 0);
            due("WAITED", x.tried(0, 1, 0, 1), must ? 3 : 0);
            due("LATE", x.tried(0, 1, 0, 0), must ? 0 : 1);
            due("PAID", x.tried(0, 1, 0, 2), must ? 8 : 0);
            due("at once by 0", x.tried(0, 0, 0, 1), 0);
            due("once by 0", x.tried(0, 0, 0, 3), 1);
        }
        WhenToSpeak y = withThing(0, 3);
        y.thing(15, 1, 0, 0, 1, 0, 60);
        y.go(9);
        due("others are not said with it", y.tried(0, 1, 0, 3), 1);
    }

    private static void lateOnes() {
        sheet.says("LATE ones: said behind their CLOCK, or never though it is below NOW;");
        WhenToSpeak x = withThing(1, 2);
        x.thing(15, 2, 0, 0, 1, 0, 3);
        x.seams(1);
        Scene.onlyState(x, 1);
        Scene.goes(x, 1, 0, 0, 1, 0);
        Scene.goes(x, 2, 0, 0, 0, 1);
        Scene.goes(x, 3, 1, 0, 0, 0);
        x.go(2);
        due("CLOCK 2 is NOW", x.tried(0, 1, 0, 0), 0);
        x.go(1);
        due("CLOCK 2 is below NOW", x.tried(0, 1, 0, 0), 1);
        due("none is said", x.tried(0, 1, 0, 3), 0);
        x.go(1);
        due("said in TICK 3: CLOCK 2 is behind, CLOCK 3 is not", x.tried(0, 1, 0, 0), 1);
        due("both are said", x.tried(0, 1, 0, 3), 2);
        due("at once by 0", x.tried(0, 0, 0, 0), 0);
        Scene.goTo(x, 60);
        due("still one", x.tried(0, 1, 0, 0), 1);
        due("never said: both", x.seams(0), 1);
        due("never said: both", x.tried(0, 1, 0, 0), 2);
    }

    private static void waited() {
        sheet.says("WAITED: TICKS from being told to being said, all together;");
        WhenToSpeak x = withThing(0, 5);
        x.go(2);
        x.thing(15, 3, 0, 0, 1, 0, 2);
        x.thing(15, 3, 0, 0, 1, 0, 9);
        x.thing(15, 1, 0, 0, 1, 0, 9);
        x.go(20);
        due("5 and 0 and 7; never said: nothing", x.tried(0, 1, 0, 1), 12);
        due("three", x.tried(0, 1, 0, 3), 3);
        due("LATE: one", x.tried(0, 1, 0, 0), 1);
        due("none by 0", x.tried(0, 0, 0, 1), 0);
    }

    private static void paid() {
        sheet.says("PAID: LOSS of each TICK in which something is said.");
        WhenToSpeak x = withThing(0, 1);
        x.thing(15, 0, 0, 0, 1, 0, 1);
        x.thing(15, 0, 0, 0, 1, 0, 2);
        x.cost(2, 0, 999);
        x.go(3);
        due("two in TICK 1, one in TICK 2", x.tried(0, 1, 0, 2), 16);
        due("by another WAY", x.tried(0, 1, 2, 2), 2 * (249 + 6));
        due("all at once", x.tried(0, 0, 0, 2), 8);
        due("for nobody", withThing(1, 60).tried(0, 0, 0, 2), 0);
        Scene.onlyState(x, 0);
        Scene.goes(x, 0, 0, 1, 0, 0);
        Scene.goes(x, 1, 1, 0, 0, 0);
        due("by ODDS then: 10 in TICK 1, 999 in TICK 2", x.tried(0, 1, 2, 2), 1009);
        due("by ODDS then: 999 in TICK 0", x.tried(0, 0, 2, 2), 999);
    }
}
