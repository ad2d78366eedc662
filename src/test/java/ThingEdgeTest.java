import java.io.IOException;

/** Parts 2 and 3 of the document, and promises 12 to 19 and 23: THINGS, WAYS, and what LAWS bar. */
public final class ThingEdgeTest {
    private static final int UNKNOWN = -1001, OUTSIDE = -1002, NOT = -1003, FULL = -1004;
    private static final int WAITING = 0, TOLD = 1, DEAD = 2, LATE = 3;

    private static Sheet sheet;

    public static void main(String[] args) throws IOException {
        sheet = new Sheet();
        ten();
        sets();
        whats();
        persons();
        kinds();
        worths();
        clocks();
        seamOnes();
        told();
        two();
        dead();
        late();
        counts();
        ways();
        barredWays();
        barredStates();
        barredKinds();
        most();
        mostInAll();
        always();
        eightClauses();
        newLaws();
        firstBar();
        sheet.end();
    }

    private static void due(String call, int got, int want) {
        sheet.due(call, got, want);
    }

    /** A THING for PERSON 0 and 1 that waits long. */
    private static WhenToSpeak withThing(int kind) {
        WhenToSpeak x = new WhenToSpeak();
        x.thing(3, kind, 0, 5, 100, 0, 60);
        return x;
    }

    private static void ten() {
        sheet.says("THINGS (10 at most)");
        WhenToSpeak x = new WhenToSpeak();
        for (int t = 0; t < 10; t++) {
            due("not yet there", x.told(t, 0), UNKNOWN);
            due("THING " + t, x.thing(1 + t, 1, 2, t, 3, 4, 50 + t), t);
            due("PERSONS", x.told(t, 0), 1 + t);
            due("CLOCK", x.told(t, 4), 50 + t);
        }
        due("an eleventh", x.thing(1, 1, 2, 3, 3, 4, 60), FULL);
        due("ten", x.count(1), 10);
        due("THING 10", x.told(10, 0), UNKNOWN);
        due("the first is as it was", x.told(0, 4), 50);
        due("the last is as it was", x.told(9, 4), 59);
        due("DEAD ones keep their room", x.dead(3), 0);
        due("an eleventh", x.thing(1, 1, 2, 3, 3, 4, 60), FULL);
        sheet.says("What has a number has it from 0 on, as it comes.");
        WhenToSpeak y = new WhenToSpeak();
        due("refused", y.thing(0, 0, 0, 0, 0, 0, 0), UNKNOWN);
        due("refused", y.thing(1, 4, 0, 0, 0, 0, 0), OUTSIDE);
        due("the first that is not", y.thing(1, 3, 0, 0, 0, 0, 0), 0);
        due("refused", y.say(1, 1, 0), NOT);
        due("the first that is not", y.say(0, 1, 0), 0);
        due("the next", y.say(0, 1, 0), 1);
    }

    private static void sets() {
        sheet.says("A SET is a whole number, bit k for k.");
        WhenToSpeak x = new WhenToSpeak();
        for (int t = 0; t < 10; t++) {
            x.thing(1 << t % 4, 1, t / 4, 0, 100, 0, 60);
        }
        for (int t = 0; t < 10; t++) {
            for (int p = 0; p < 4; p++) {
                due("THING " + t + " to PERSON " + p, x.say(p, 1 << t, 0) >= 0 ? 1 : 0, p == t % 4 ? 1 : 0);
            }
            due("in its own SAYING", x.saying(t, 1), 1 << t);
            due("in one", x.told(t, 6), 1);
        }
        x.dead(9);
        due("taken back", x.saying(9, 5), 512);
        for (int i = 0; i < 4; i++) {
            Scene.onlyState(x, i);
            for (int set = 0; set < 16; set++) {
                x.seams(set);
                due("STATE " + i + " in SEAMS " + set, x.seam(0, 0), (set >> i & 1) * 1000000);
            }
        }
    }

    private static void whats() {
        sheet.says("Of a THING: what = 0 PERSONS, 1 KIND, 2 MATTER, 3 from, 4 CLOCK, 5 0 WAITING, 1 TOLD, 2 DEAD, 3 LATE,");
        WhenToSpeak x = new WhenToSpeak();
        x.thing(15, 0, 5, 9, 999, 99, 60);
        x.thing(1, 3, 0, 0, 0, 0, 0);
        x.thing(8, 1, 2, 3, 4, 5, 6);
        x.thing(6, 2, 1, 4, 4, 5, 6);
        x.go(1);
        x.dead(2);
        x.say(1, 8, 0);
        int[][] want = {{15, 0, 5, 9, 60, WAITING}, {1, 3, 0, 0, 0, LATE}, {8, 1, 2, 3, 6, DEAD}, {6, 2, 1, 4, 6, TOLD}};
        for (int t = 0; t < 4; t++) {
            for (int what = 0; what < 6; what++) {
                due("told(" + t + ", " + what + ")", x.told(t, what), want[t][what]);
            }
        }
        sheet.says("A THING is WAITING,");
        due("one of four", x.count(2), 1);
        due("one that is LATE", x.count(5), 1);
        x.came(0, 3);
        due("a wiped one waits again", x.count(2), 2);
    }

    private static void persons() {
        sheet.says("are for a SET of PERSONS (who can; not none)");
        WhenToSpeak x = new WhenToSpeak();
        for (int p = 0; p < 4; p++) {
            x.thing(1 << p, 1, 0, 0, 100, 0, 60);
            for (int q = 0; q < 4; q++) {
                due("FIRST is who can", x.who(p, 0), p);
                due("said to who can alone", x.say(q, 1 << p, 0) >= 0 ? 1 : 0, q == p ? 1 : 0);
            }
        }
        due("all of them", x.thing(15, 1, 0, 0, 100, 0, 60), 4);
        for (int p = 0; p < 4; p++) {
            due("planned for each", x.plan(p, 1, 0, 0), 16);
        }
        sheet.says("UNKNOWN (bits of other PERSONS; none)");
        for (int bit = 4; bit < 32; bit++) {
            due("bit " + bit, x.thing(1 << bit, 1, 0, 0, 0, 0, 60), UNKNOWN);
            due("bit " + bit + " and all good ones", x.thing(1 << bit | 15, 1, 0, 0, 0, 0, 60), UNKNOWN);
        }
        due("none", x.thing(0, 1, 0, 0, 0, 0, 60), UNKNOWN);
        due("no THING was made", x.count(1), 5);
    }

    private static void kinds() {
        sheet.says("of a KIND: 0 MUST, 1 SOON, 2 SEAM, 3 TWO (must, and seen by two);");
        int[] planned = {2092, 92, 17, 2092};
        for (int kind = 0; kind < 4; kind++) {
            WhenToSpeak x = withThing(kind);
            x.seen(0, 100);
            x.seams(1);
            due("KIND " + kind, x.told(0, 1), kind);
            due("VALUE", x.value(0, 0, 0), kind == 2 ? 25 : 100);
            due("GAIN less LOSS", x.plan(0, 1, -1, 0), planned[kind]);
            x.came(x.say(0, 1, 0), 1);
            due("looked at by one", x.told(0, 5), kind == 3 ? WAITING : TOLD);
        }
        sheet.says("of a MATTER (0 .. 5), from one (0 .. 9);");
        WhenToSpeak x = new WhenToSpeak();
        for (int matter = 0; matter <= 5; matter++) {
            x.thing(1, 1, matter, 9 - matter, 1, 0, 60);
            due("MATTER", x.told(matter, 2), matter);
            due("from", x.told(matter, 3), 9 - matter);
        }
        due("MATTERS 0 and 5 are unlike", x.say(0, 33, 0), NOT);
        x.thing(1, 1, 5, 0, 1, 0, 60);
        due("from 0", x.told(6, 3), 0);
        due("one MATTER 5", x.say(0, 32 + 64, 0), 0);
    }

    private static void worths() {
        sheet.says("with a WORTH (0 .. 999) that is less by so much (0 .. 99) in each TICK since it was told (0 at least)");
        WhenToSpeak x = new WhenToSpeak();
        x.go(5);
        x.thing(1, 1, 0, 0, 999, 99, 60);
        x.thing(1, 1, 0, 0, 0, 99, 60);
        x.thing(1, 1, 0, 0, 999, 0, 60);
        due("in its TICK", x.value(0, 0, 0), 999);
        due("in the next", x.value(0, 0, 1), 900);
        due("ahead by 8", x.value(0, 0, 8), 207);
        due("of no WORTH", x.value(1, 0, 0), 0);
        due("not below 0", x.value(1, 0, 1), 0);
        due("never less", x.value(2, 0, 8), 999);
        x.go(10);
        due("ten TICKS on", x.value(0, 0, 0), 9);
        due("0 at least", x.value(0, 0, 1), 0);
        due("0 at least", x.value(0, 0, 8), 0);
        Scene.goTo(x, 60);
        due("at 60", x.value(0, 0, 0), 0);
        due("never less", x.value(2, 0, 0), 999);
        WhenToSpeak y = new WhenToSpeak();
        y.thing(1, 1, 0, 0, 100, 50, 60);
        due("just 0", y.value(0, 0, 2), 0);
        due("one TICK ahead of it", y.value(0, 0, 1), 50);
    }

    private static void clocks() {
        sheet.says("a CLOCK: the last TICK that is good (NOW .. 60); behind it, and of a DEAD one, VALUE is 0.");
        WhenToSpeak x = new WhenToSpeak();
        x.go(3);
        due("NOW less 1", x.thing(1, 1, 0, 0, 7, 0, 2), OUTSIDE);
        due("NOW", x.thing(1, 1, 0, 0, 7, 0, 3), 0);
        due("60", x.thing(1, 1, 0, 0, 7, 0, 60), 1);
        due("61", x.thing(1, 1, 0, 0, 7, 0, 61), OUTSIDE);
        due("good in NOW", x.value(0, 0, 0), 7);
        due("behind it", x.value(0, 0, 1), 0);
        Scene.goTo(x, 57);
        due("good in 60", x.value(1, 0, 3), 7);
        due("behind 60", x.value(1, 0, 4), 0);
        Scene.goTo(x, 60);
        due("NOW is 60", x.thing(1, 1, 0, 0, 8, 0, 60), 2);
        due("good in 60", x.value(2, 0, 0), 8);
        due("behind 60", x.value(2, 0, 1), 0);
        due("behind 60", x.value(2, 0, 8), 0);
        x.dead(2);
        due("a DEAD one", x.value(2, 0, 0), 0);
        sheet.says("VALUE of a THING for a PERSON ahead by k TICKS (0 .. 8).");
        WhenToSpeak y = new WhenToSpeak();
        y.thing(1, 0, 0, 0, 100, 1, 60);
        for (int k = 0; k <= 8; k++) {
            due("ahead by " + k, y.value(0, 0, k), 100 - k);
        }
    }

    private static void seamOnes() {
        sheet.says("VALUE of a SEAM one is only there in a TICK by SEAM ODDS: times these / 1000000.");
        WhenToSpeak x = new WhenToSpeak();
        x.thing(15, 2, 0, 0, 999, 1, 60);
        due("no SEAMS", x.value(0, 0, 0), 0);
        x.seams(15);
        due("all", x.value(0, 0, 0), 999);
        due("all, ahead by 1", x.value(0, 0, 1), 998);
        x.begins(3, 0);
        due("999999, cut", x.value(0, 0, 0), 998);
        x.seams(1);
        due("333333, cut", x.value(0, 0, 0), 332);
        Scene.onlyState(x, 1);
        due("0", x.value(0, 0, 0), 0);
        Scene.goes(x, 1, 1, 0, 0, 0);
        due("by SEAM ODDS ahead", x.value(0, 0, 1), 998);
        x.shows(1, 2, 0);
        x.sign(2, 2);
        due("by those of the PERSON", x.value(0, 2, 1), 0);
        due("by those of another", x.value(0, 3, 1), 998);
    }

    private static void told() {
        sheet.says("TOLD (a SAYING of it is not wiped,");
        int[] standing = {TOLD, TOLD, TOLD, WAITING};
        for (int kind = 0; kind < 3; kind++) {
            for (int came = 0; came <= 3; came++) {
                WhenToSpeak x = withThing(kind);
                due("not said", x.told(0, 5), WAITING);
                x.say(0, 1, 0);
                x.came(0, came);
                due("outcome " + came, x.told(0, 5), standing[came]);
            }
        }
        WhenToSpeak x = withThing(1);
        x.thing(3, 1, 0, 0, 1, 0, 60);
        x.say(0, 1, 0);
        due("another THING was said", x.told(1, 5), WAITING);
        x.came(0, 3);
        x.say(0, 3, 0);
        due("said again", x.told(0, 5), TOLD);
        due("said with another", x.told(1, 5), TOLD);
        x.came(1, 3);
        due("both wiped", x.told(0, 5), WAITING);
        due("both wiped", x.told(1, 5), WAITING);
        x.say(1, 1, 0);
        due("to another PERSON", x.told(0, 5), TOLD);
        sheet.says("6 in how many SAYINGS it is, 7 the TICK of thing().");
        due("in three", x.told(0, 6), 3);
        due("in one", x.told(1, 6), 1);
        due("in TICK 0", x.told(0, 7), 0);
        x.go(9);
        x.thing(1, 0, 0, 0, 0, 0, 60);
        due("in none", x.told(2, 6), 0);
        due("in TICK 9", x.told(2, 7), 9);
        due("still in TICK 0", x.told(0, 7), 0);
    }

    private static void two() {
        sheet.says("and for TWO: two unlike PERSONS looked at SAYINGS of it)");
        for (int a = 1; a <= 3; a++) {
            for (int b = 1; b <= 3; b++) {
                WhenToSpeak x = withThing(3);
                x.say(0, 1, 0);
                x.say(1, 1, 0);
                x.came(0, a);
                due("told by one alone", x.told(0, 5), WAITING);
                x.came(1, b);
                due(a + " and " + b, x.told(0, 5), a == 1 && b == 1 ? TOLD : WAITING);
            }
        }
        WhenToSpeak x = withThing(3);
        x.say(0, 1, 0);
        x.say(0, 1, 1);
        x.came(0, 1);
        x.came(1, 1);
        due("one PERSON twice", x.told(0, 5), WAITING);
        x.say(1, 1, 0);
        x.came(2, 3);
        due("another wiped it", x.told(0, 5), WAITING);
        x.say(1, 1, 0);
        x.came(3, 1);
        due("and then looked at it", x.told(0, 5), TOLD);
        WhenToSpeak y = new WhenToSpeak();
        y.thing(15, 3, 0, 0, 1, 0, 60);
        y.thing(15, 3, 0, 0, 1, 0, 60);
        y.came(y.say(2, 1, 0), 1);
        y.came(y.say(3, 2, 0), 1);
        due("two looked at two THINGS", y.told(0, 5), WAITING);
        due("two looked at two THINGS", y.told(1, 5), WAITING);
        y.came(y.say(3, 3, 0), 1);
        due("PERSONS 2 and 3", y.told(0, 5), TOLD);
        due("PERSON 3 twice", y.told(1, 5), WAITING);
    }

    private static void dead() {
        sheet.says("A THING is DEAD: in how many SAYINGS it is to be taken back.");
        WhenToSpeak x = withThing(1);
        x.thing(3, 1, 0, 0, 1, 0, 60);
        x.thing(3, 1, 0, 0, 1, 0, 60);
        for (int came = 0; came <= 3; came++) {
            x.say(0, came == 0 ? 3 : 1, 0);
            x.came(came, came);
        }
        due("in none", x.dead(2), 0);
        due("in one", x.dead(1), 1);
        due("in four, whatever came of them", x.dead(0), 4);
        sheet.says("NOT: it is DEAD.");
        due("THING 0", x.dead(0), NOT);
        due("THING 2", x.dead(2), NOT);
        sheet.says("DEAD (taken back),");
        for (int t = 0; t < 3; t++) {
            due("DEAD", x.told(t, 5), DEAD);
            due("it has no VALUE", x.value(t, 0, 0), 0);
            due("it is not said", x.say(0, 1 << t, 0), NOT);
        }
        due("it is still in its SAYINGS", x.told(0, 6), 4);
        due("its KIND stays", x.told(0, 1), 1);
        WhenToSpeak y = new WhenToSpeak();
        y.thing(1, 1, 0, 0, 1, 0, 0);
        y.go(1);
        due("LATE", y.told(0, 5), LATE);
        due("a LATE one can be taken back", y.dead(0), 0);
        due("DEAD", y.told(0, 5), DEAD);
    }

    private static void late() {
        sheet.says("or LATE (not TOLD, its CLOCK below NOW).");
        for (int kind = 0; kind < 4; kind++) {
            WhenToSpeak x = new WhenToSpeak();
            x.thing(15, kind, 0, 0, 1, 0, 4);
            x.go(4);
            due("its CLOCK is NOW", x.told(0, 5), WAITING);
            x.go(1);
            due("its CLOCK is below NOW", x.told(0, 5), LATE);
            x.came(x.say(0, 1, 0), 1);
            due("TOLD though late", x.told(0, 5), kind == 3 ? LATE : TOLD);
            x.came(x.say(1, 1, 0), 1);
            due("TOLD though late", x.told(0, 5), TOLD);
        }
        WhenToSpeak x = new WhenToSpeak();
        x.thing(1, 1, 0, 0, 1, 0, 4);
        x.say(0, 1, 0);
        x.go(20);
        due("TOLD ones are not LATE", x.told(0, 5), TOLD);
        x.came(0, 3);
        due("but wiped ones", x.told(0, 5), LATE);
        WhenToSpeak y = new WhenToSpeak();
        y.thing(1, 1, 0, 0, 1, 0, 60);
        Scene.goTo(y, 60);
        due("a CLOCK of 60 is never LATE", y.told(0, 5), WAITING);
    }

    private static void counts() {
        sheet.says("How many: 0 NOW, 1 THINGS, 2 WAITING, 3 TOLD, 4 DEAD, 5 LATE, 6 SAYINGS, 7 bytes of THE TEXT.");
        WhenToSpeak x = new WhenToSpeak();
        int[] clocks = {0, 0, 0, 0, 1, 1, 1, 2, 2, 60};
        for (int t = 0; t < 10; t++) {
            x.thing(1, 1, 0, 0, 1, 0, clocks[t]);
        }
        x.go(2);
        x.dead(4);
        x.dead(7);
        x.say(0, 1, 0);
        x.feed(7, 0);
        int[] want = {2, 10, 2, 1, 2, 5, 1, 7};
        for (int what = 0; what < 8; what++) {
            due("count(" + what + ")", x.count(what), want[what]);
        }
        due("count(8)", x.count(8), OUTSIDE);
        due("count(-1)", x.count(-1), OUTSIDE);
    }

    private static void ways() {
        sheet.says("WAYS 0 to 3 COST (0 .. 999; 10 at first) by STATES;");
        WhenToSpeak x = new WhenToSpeak();
        for (int way = 0; way < 4; way++) {
            for (int i = 0; i < 4; i++) {
                due("COST at first", x.cost(way, i, 999), 10);
                due("COST of 999", x.cost(way, i, 0), 999);
                due("COST of 0", x.cost(way, i, 10 * way + i), 0);
            }
        }
        for (int i = 0; i < 4; i++) {
            Scene.onlyState(x, i);
            for (int way = 0; way < 4; way++) {
                due("by STATES", x.loss(2, way, 0), 10 * way + i);
            }
        }
        sheet.says("are SEEN by odds (0 .. 100 of a hundred; 50 at first).");
        for (int way = 0; way < 4; way++) {
            due("SEEN at first", x.seen(way, 100), 50);
            due("SEEN of 100", x.seen(way, 0), 100);
            due("SEEN of 0", x.seen(way, 50), 0);
        }
        sheet.says("LOSS of a WAY for a PERSON ahead by k.");
        WhenToSpeak y = new WhenToSpeak();
        Scene.onlyState(y, 0);
        Scene.goes(y, 0, 0, 1, 0, 0);
        y.cost(0, 0, 999);
        y.cost(0, 1, 0);
        due("by 0", y.loss(0, 0, 0), 999);
        due("by 1", y.loss(0, 0, 1), 0);
        due("by 8", y.loss(0, 0, 8), 0);
        sheet.says("LOSS: for all STATES ODDS ahead times COST / 1000000 (each cut).");
        WhenToSpeak z = new WhenToSpeak();
        due("2 and a half four times, each cut", z.loss(0, 0, 0), 8);
        Scene.allWays(z, 50, 3);
        due("three quarters four times", z.loss(0, 0, 0), 0);
        Scene.allWays(z, 50, 999);
        due("249 and three quarters four times", z.loss(0, 3, 8), 996);
    }

    private static void barredWays() {
        sheet.says("A SAYING of THINGS by a WAY in a TICK is LET, if: the WAY is not barred;");
        for (int barred = 0; barred < 4; barred++) {
            WhenToSpeak x = withThing(1);
            due("a clause", Scene.law(x, 0, "never way " + barred + ";"), 1);
            for (int way = 0; way < 4; way++) {
                due("WAY " + way, x.barred(0, 1, way), way == barred ? 1 : 0);
                due("of another PERSON", x.barred(1, 1, way), 0);
            }
        }
        WhenToSpeak x = withThing(1);
        Scene.law(x, 0, "never way 3;never way 0;never way 3;");
        due("WAY 0", x.barred(0, 1, 0), 1);
        due("WAY 1", x.barred(0, 1, 1), 0);
        due("WAY 3", x.barred(0, 1, 3), 1);
    }

    private static void barredStates() {
        sheet.says("if ODDS of S times 100 are N millions or more;");
        for (int n = 0; n <= 100; n++) {
            WhenToSpeak x = withThing(1);
            Scene.law(x, 0, "never way 1 state 2 " + n + ";");
            due("250000 and " + n, x.barred(0, 1, 1), n <= 25 ? 1 : 0);
            due("another WAY", x.barred(0, 1, 2), 0);
            Scene.begin(x, 1, 1, 1, 0);
            due("333333 and " + n, x.barred(0, 1, 1), n <= 33 ? 1 : 0);
            Scene.onlyState(x, 2);
            due("all and " + n, x.barred(0, 1, 1), 1);
            Scene.onlyState(x, 3);
            due("none and " + n, x.barred(0, 1, 1), n == 0 ? 1 : 0);
        }
        WhenToSpeak x = withThing(1);
        Scene.onlyState(x, 3);
        x.begins(0, 1);
        x.begins(3, 4);
        x.move(3, 3, 4);
        x.shows(3, 0, 4);
        for (int t = 0; t < 7; t++) {
            x.go(t == 0 ? 0 : 1);
            x.sign(0, 0);
        }
        Scene.law(x, 0, "never way 0 state 3 100;never way 1 state 3 99;never way 2 state 0 1;never way 3 state 0 0;");
        due("999999 are not 100", x.barred(0, 1, 0), 0);
        due("but 99", x.barred(0, 1, 1), 1);
        due("0 are not 1", x.barred(0, 1, 2), 0);
        due("but 0", x.barred(0, 1, 3), 1);
    }

    private static void barredKinds() {
        sheet.says("no THING of it is of a barred KIND;");
        for (int kind = 0; kind < 4; kind++) {
            WhenToSpeak x = new WhenToSpeak();
            for (int k = 0; k < 4; k++) {
                x.thing(1, k, 0, 0, 1, 0, 60);
            }
            x.go(1);
            Scene.law(x, 0, "never kind " + kind + " after 0;");
            for (int set = 1; set < 16; set++) {
                due("SET " + set, x.barred(0, set, 0), (set >> kind & 1) == 1 ? 2 : 0);
            }
        }
        sheet.says("after N: in TICKS above N (0 .. 60);");
        for (int n : new int[] {0, 1, 30, 59, 60}) {
            WhenToSpeak x = withThing(1);
            Scene.law(x, 0, "never kind 1 after " + n + ";");
            due("TICK 0", x.barred(0, 1, 0), 0);
            Scene.goTo(x, n);
            due("TICK " + n, x.barred(0, 1, 0), 0);
            if (n < 60) {
                x.go(1);
                due("a TICK on", x.barred(0, 1, 0), 2);
                Scene.goTo(x, 60);
                due("TICK 60", x.barred(0, 1, 0), 2);
            }
        }
    }

    private static void most() {
        sheet.says("most N (0 .. 9) SAYINGS in any N (1 .. 60) TICKS, this one with them;");
        for (int n = 0; n <= 9; n++) {
            WhenToSpeak x = withThing(1);
            Scene.law(x, 0, "most " + n + " in 1;");
            for (int said = 0; said < n; said++) {
                due("there is room", x.say(0, 1, 0), said);
            }
            due("there is none", x.barred(0, 1, 0), 3);
            due("there is none", x.say(0, 1, 0), NOT);
            x.go(1);
            due("a TICK on", x.barred(0, 1, 0), n == 0 ? 3 : 0);
        }
        for (int ticks : new int[] {1, 2, 30, 59, 60}) {
            WhenToSpeak x = withThing(1);
            Scene.law(x, 0, "most 1 in " + ticks + ";");
            due("the first", x.say(0, 1, 0), 0);
            Scene.goTo(x, ticks - 1);
            due("the last of " + ticks + " TICKS", x.barred(0, 1, 0), 3);
            x.go(1);
            due("behind them", x.barred(0, 1, 0), 0);
            due("said", x.say(0, 1, 0), 1);
            due("and barred again", x.barred(0, 1, 0), 3);
        }
    }

    private static void mostInAll() {
        sheet.says("there are not as many in the last TICKS as most (each such clause) tells.");
        WhenToSpeak x = withThing(1);
        Scene.law(x, 0, "most 9 in 60;most 1 in 2;most 2 in 5;");
        due("TICK 0", x.say(0, 1, 0), 0);
        due("1 in 2", x.barred(0, 1, 0), 3);
        x.go(1);
        due("1 in 2", x.barred(0, 1, 0), 3);
        x.go(1);
        due("TICK 2", x.say(0, 1, 0), 1);
        x.go(2);
        due("2 in 5", x.barred(0, 1, 0), 3);
        x.go(1);
        due("TICK 5", x.say(0, 1, 0), 2);
        due("SAYINGS of another PERSON do not count", x.barred(1, 1, 0), 0);
        x.say(1, 1, 0);
        x.go(2);
        due("TICK 7", x.barred(0, 1, 0), 0);
        WhenToSpeak y = withThing(1);
        Scene.law(y, 0, "most 1 in 1;");
        y.say(1, 1, 0);
        due("said to another", y.barred(0, 1, 0), 0);
        y.say(0, 1, 0);
        y.came(1, 3);
        due("a wiped one counts", y.barred(0, 1, 0), 3);
        WhenToSpeak z = withThing(1);
        z.say(0, 1, 0);
        z.go(3);
        Scene.law(z, 0, "most 1 in 4;");
        due("one from ahead of the LAWS counts", z.barred(0, 1, 0), 3);
    }

    private static void always() {
        sheet.says("A THING from one of always bars nothing by its KIND,");
        WhenToSpeak x = new WhenToSpeak();
        x.thing(1, 1, 0, 0, 1, 0, 60);
        x.thing(1, 1, 0, 9, 1, 0, 60);
        x.thing(1, 2, 0, 4, 1, 0, 60);
        x.go(1);
        Scene.law(x, 0, "never kind 1 after 0;always from 9;");
        due("from 0", x.barred(0, 1, 0), 2);
        due("from 9", x.barred(0, 2, 0), 0);
        due("from 9 with one of no barred KIND", x.barred(0, 6, 0), 0);
        due("from 9 with one of a barred KIND", x.barred(0, 3, 0), 2);
        Scene.law(x, 0, "never kind 1 after 0;always from 0;always from 9;");
        due("from 0 and 9", x.barred(0, 3, 0), 0);
        sheet.says("and if all THINGS of a SAYING are so, WAYS and most bar nothing.");
        Scene.law(x, 0, "always from 0;always from 9;never way 0;most 0 in 1;never way 2 state 1 0;");
        due("all of them, WAY 0", x.barred(0, 3, 0), 0);
        due("all of them, WAY 2", x.barred(0, 3, 2), 0);
        due("one is not, WAY 0", x.barred(0, 7, 0), 1);
        due("one is not, WAY 2", x.barred(0, 7, 2), 1);
        due("one is not, most", x.barred(0, 7, 1), 3);
        due("it alone, most", x.barred(0, 4, 1), 3);
        due("they are said", x.say(0, 3, 0), 0);
        due("and said again", x.say(0, 3, 2), 1);
        Scene.law(x, 0, "most 3 in 1;always from 0;");
        due("two SAYINGS of always count", x.say(0, 4, 0), 2);
        due("with a third", x.barred(0, 4, 0), 3);
        due("not for one of always", x.barred(0, 1, 0), 0);
        due("always of another PERSON", Scene.law(x, 1, "always from 4;"), 1);
        due("is not this one's", x.barred(0, 4, 0), 3);
    }

    /** The last of eight clauses holds like the first. */
    private static void eightClauses() {
        sheet.says("3 a ninth clause (at its first letter).");
        String[] clauses = {"never way 2;", "never way 2 state 1 25;", "never kind 1 after 0;", "most 1 in 9;"};
        int[] bars = {1, 1, 2, 3};
        for (int c = 0; c < 4; c++) {
            for (int at = 0; at < 8; at++) {
                WhenToSpeak x = withThing(1);
                x.say(0, 1, 0);
                x.go(1);
                String other = "most 9 in 1;";
                due("eight", Scene.law(x, 0, other.repeat(at) + clauses[c] + other.repeat(7 - at)), 8);
                due("clause " + at, x.barred(0, 1, 2), bars[c]);
            }
        }
        WhenToSpeak x = withThing(1);
        due("eight", Scene.law(x, 0, "never way 2;".repeat(7) + "always from 5;"), 8);
        due("always as the eighth", x.barred(0, 1, 2), 0);
        due("a PLAN under eight", x.plan(0, 6, 5, 1), 0);
        due("eight of never", Scene.law(x, 0, "never way 2;never way 0;".repeat(4)), 8);
        due("WAY 1", x.barred(0, 1, 1), 0);
        due("a PLAN under eight", x.plan(0, 6, 5, 1), 1);
    }

    /** LAWS that are read take the place of all that were there. */
    private static void newLaws() {
        sheet.says("THE TEXT (it is empty then) becomes LAWS of a PERSON:");
        String[] old = {"never way 2;", "never way 2 state 1 0;", "never kind 1 after 0;", "most 0 in 9;"};
        String[] shorter = {"", "never way 3;", "never way 3;never way 1;"};
        for (String clause : old) {
            for (String text : shorter) {
                WhenToSpeak x = withThing(1);
                x.go(1);
                Scene.law(x, 0, clause.repeat(4));
                due("barred", x.barred(0, 1, 2) > 0 ? 1 : 0, 1);
                Scene.law(x, 0, clause.repeat(4));
                Scene.law(x, 1, clause.repeat(4));
                due("shorter LAWS", Scene.law(x, 0, text), text.length() / 12);
                due("the old are gone", x.barred(0, 1, 2), 0);
                due("but for PERSON 1", x.barred(1, 1, 2) > 0 ? 1 : 0, 1);
            }
        }
        WhenToSpeak x = withThing(1);
        Scene.law(x, 0, "never way 2;always from 5;always from 5;");
        due("always", x.barred(0, 1, 2), 0);
        Scene.law(x, 0, "never way 2;always from 4;");
        due("no more", x.barred(0, 1, 2), 1);
        Scene.law(x, 0, "always from 5;always from 5;");
        Scene.law(x, 0, "never way 2;");
        due("nor from others", x.barred(0, 1, 2), 1);
    }

    private static void firstBar() {
        sheet.says("0, or what bars it: 1 the WAY, 2 a KIND, 3 most (the first of these).");
        String[] bars = {"never way 0;", "never kind 1 after 0;", "most 0 in 1;"};
        for (int set = 0; set < 8; set++) {
            WhenToSpeak x = withThing(1);
            x.go(1);
            StringBuilder text = new StringBuilder();
            int first = 0;
            for (int b = 2; b >= 0; b--) {
                if ((set >> b & 1) == 1) {
                    text.append(bars[b]);
                    first = b + 1;
                }
            }
            Scene.law(x, 0, text.toString());
            due("bars " + set, x.barred(0, 1, 0), first);
            due("nothing is said by asking", x.count(6), 0);
            due("said", x.say(0, 1, 0), set == 0 ? 0 : NOT);
        }
        sheet.says("UNKNOWN (bits; none), OUTSIDE.");
        WhenToSpeak x = withThing(1);
        for (int bit = 1; bit < 32; bit++) {
            due("bit " + bit, x.barred(0, 1 << bit, 0), UNKNOWN);
            due("bit " + bit + " and a good one", x.barred(0, 1 << bit | 1, 0), UNKNOWN);
        }
        due("none", x.barred(0, 0, 0), UNKNOWN);
        x.dead(0);
        due("a DEAD one is a THING", x.barred(0, 1, 0), 0);
        due("one for others is a THING", x.barred(3, 1, 0), 0);
    }
}
