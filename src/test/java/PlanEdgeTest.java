import java.io.IOException;

/** Part 4 of the document, and promise 24: what a PLAN looks at, what it may say, and which of like ones is first. */
public final class PlanEdgeTest {
    private static final int NONE = -1;

    private static Sheet sheet;

    public static void main(String[] args) throws IOException {
        sheet = new Sheet();
        steps();
        ticks();
        matters();
        waiting();
        oneSaying();
        sixThings();
        letByWaysAndKinds();
        letByMost();
        letByAlways();
        gains();
        losses();
        mustOnes();
        theMost();
        nothingFirst();
        setsNext();
        waysLast();
        asking();
        sheet.end();
    }

    private static void due(String call, int got, int want) {
        sheet.due(call, got, want);
    }

    /** An object in which WAYS are always seen and cost nothing, so that GAIN is VALUE. */
    private static WhenToSpeak free() {
        WhenToSpeak x = new WhenToSpeak();
        Scene.allWays(x, 100, 0);
        return x;
    }

    /** THE BEST PLAN for PERSON 0: GAIN less LOSS, and the SETS of its steps. */
    private static void planned(WhenToSpeak x, String what, int total, int... sets) {
        due(what + ", in all", x.plan(0, sets.length, NONE, 0), total);
        for (int i = 0; i < sets.length; i++) {
            due(what + ", step " + i, x.plan(0, sets.length, i, 0), sets[i]);
        }
    }

    private static void steps() {
        sheet.says("A PLAN for a PERSON of n steps (1 .. 6):");
        WhenToSpeak x = free();
        x.thing(1, 1, 0, 0, 100, 0, 60);
        planned(x, "1 step", 100, 1);
        planned(x, "2 steps", 100, 0, 1);
        planned(x, "6 steps", 100, 0, 0, 0, 0, 0, 1);
        for (int matter = 1; matter < 6; matter++) {
            x.thing(1, 1, matter, 0, 100 - matter, 0, 60);
        }
        planned(x, "6 steps, all full", 585, 1, 2, 4, 8, 16, 32);
        planned(x, "5 steps, all full", 490, 1, 2, 4, 8, 16);
        planned(x, "1 step", 100, 1);
    }

    private static void ticks() {
        sheet.says("in each step (TICKS NOW, NOW and 1, ..) nothing is said,");
        WhenToSpeak x = free();
        x.go(7);
        x.thing(1, 1, 0, 0, 100, 0, 9);
        planned(x, "the last good TICK is NOW and 2", 100, 0, 0, 1, 0, 0, 0);
        x.thing(1, 1, 1, 0, 50, 9, 60);
        planned(x, "what falls is said first", 150, 2, 0, 1, 0, 0, 0);
        x.go(1);
        planned(x, "a TICK on", 141, 2, 1, 0, 0);
        WhenToSpeak y = free();
        Scene.goTo(y, 60);
        y.thing(1, 0, 0, 0, 5, 0, 60);
        planned(y, "no TICK behind 60", 2005, 1, 0, 0, 0, 0, 0);
        WhenToSpeak z = free();
        planned(z, "no THINGS", 0, 0, 0, 0, 0, 0, 0);
        due("no WAY", z.plan(0, 6, 5, 1), NONE);
    }

    private static void matters() {
        sheet.says("or a SAYING of some of THINGS of one MATTER");
        WhenToSpeak x = free();
        x.thing(1, 1, 5, 0, 100, 0, 60);
        x.thing(1, 1, 4, 0, 70, 0, 60);
        x.thing(1, 1, 5, 0, 30, 0, 60);
        x.thing(1, 1, 4, 0, 70, 0, 60);
        planned(x, "one step: one MATTER", 140, 10);
        planned(x, "two steps: both", 270, 5, 10);
        WhenToSpeak y = free();
        for (int t = 0; t < 6; t++) {
            y.thing(1, 1, 0, t, 10, 0, 60);
        }
        planned(y, "six of one MATTER", 60, 63);
    }

    private static void waiting() {
        sheet.says("that are WAITING at NOW and for it");
        WhenToSpeak x = free();
        x.thing(1, 1, 0, 0, 100, 0, 0);
        x.thing(1, 1, 0, 0, 100, 0, 60);
        x.thing(1, 1, 0, 0, 100, 0, 60);
        x.thing(14, 1, 0, 0, 100, 0, 60);
        x.thing(9, 3, 0, 0, 100, 0, 60);
        planned(x, "all but the one for others", 2400, 23);
        x.go(1);
        planned(x, "one is LATE", 2300, 22);
        x.dead(1);
        planned(x, "one is DEAD", 2200, 20);
        x.say(0, 4, 0);
        planned(x, "one is TOLD", 2100, 16);
        x.came(0, 3);
        planned(x, "it is wiped: WAITING again", 2200, 20);
        x.came(x.say(0, 16, 0), 1);
        planned(x, "a TWO one that this PERSON saw is WAITING", 2200, 20);
        due("for PERSON 3 too, with the one for others", x.plan(3, 1, 0, 0), 24);
        x.came(x.say(3, 16, 0), 1);
        planned(x, "seen by two", 100, 4);
        due("the one for others", x.plan(2, 1, 0, 0), 8);
    }

    private static void oneSaying() {
        sheet.says("each in one SAYING at most;");
        WhenToSpeak x = free();
        x.thing(1, 0, 0, 0, 1, 0, 60);
        planned(x, "once in six steps", 2001, 0, 0, 0, 0, 0, 1);
        x.thing(1, 0, 0, 0, 3, 1, 60);
        planned(x, "two, each once", 4004, 2, 0, 0, 0, 0, 1);
    }

    private static void sixThings() {
        sheet.says("6 THINGS are looked at, the first ones)");
        WhenToSpeak x = free();
        for (int t = 0; t < 6; t++) {
            x.thing(1, 1, 0, 0, 1, 0, 60);
        }
        planned(x, "six", 6, 63);
        x.thing(1, 0, 0, 0, 999, 0, 60);
        planned(x, "not a seventh", 6, 63);
        x.dead(0);
        planned(x, "one of the first is DEAD", 5 + 2999, 126);
        WhenToSpeak y = free();
        for (int t = 0; t < 10; t++) {
            y.thing(t % 2 == 0 ? 2 : 3, 1, 0, 0, 1 << t / 2, 0, 60);
        }
        due("PERSON 0: five that are for it", y.plan(0, 1, NONE, 0), 31);
        due("PERSON 0: five that are for it", y.plan(0, 1, 0, 0), 682);
        due("PERSON 1: the first six", y.plan(1, 1, 0, 0), 63);
        y.say(1, 3, 0);
        due("PERSON 1: two are TOLD", y.plan(1, 1, 0, 0), 252);
        WhenToSpeak z = free();
        for (int t = 0; t < 4; t++) {
            z.thing(1, 1, 1, 0, 1, 0, 60);
        }
        for (int t = 4; t < 10; t++) {
            z.thing(1, 1, 0, 0, 1, 0, 60);
        }
        z.dead(0);
        z.dead(1);
        z.dead(2);
        z.dead(3);
        planned(z, "the last six", 6, 1008);
    }

    private static void letByWaysAndKinds() {
        sheet.says("it is LET in that TICK by ODDS ahead");
        WhenToSpeak x = free();
        Scene.onlyState(x, 0);
        Scene.goes(x, 0, 0, 1, 0, 0);
        Scene.goes(x, 1, 0, 0, 1, 0);
        Scene.goes(x, 2, 0, 0, 0, 1);
        x.thing(1, 1, 0, 0, 100, 0, 60);
        Scene.law(x, 0, "never way 0;never way 1;never way 2;never way 3 state 3 100;");
        planned(x, "barred in step 3 and on", 100, 0, 0, 1, 0, 0, 0);
        due("by the WAY that is left", x.plan(0, 6, 2, 1), 3);
        Scene.law(x, 0, "never way 0;never way 1;never way 2 state 2 1;never way 3 state 3 1;");
        due("another WAY in step 3", x.plan(0, 4, 3, 1), 2);
        due("and in step 2", x.plan(0, 3, 2, 1), 3);
        WhenToSpeak y = free();
        y.thing(1, 1, 0, 0, 100, 0, 60);
        y.thing(1, 2, 0, 0, 100, 0, 60);
        y.seams(15);
        y.go(3);
        Scene.law(y, 0, "never kind 1 after 4;never kind 2 after 5;");
        planned(y, "KINDS by TICKS", 200, 0, 1, 2, 0);
        planned(y, "a TICK less", 200, 0, 3);
        Scene.law(y, 0, "never kind 1 after 2;");
        planned(y, "in no step", 100, 0, 2);
        Scene.law(y, 0, "never kind 1 after 60;");
        planned(y, "in every step", 200, 0, 3);
    }

    private static void letByMost() {
        sheet.says("(what was said by then in this PLAN counts)");
        WhenToSpeak x = free();
        for (int t = 0; t < 6; t++) {
            x.thing(1, 1, t, 0, 100 - t, 0, 60);
        }
        Scene.law(x, 0, "most 0 in 1;");
        planned(x, "most 0", 0, 0, 0, 0, 0, 0, 0);
        Scene.law(x, 0, "most 1 in 1;");
        planned(x, "one in each", 585, 1, 2, 4, 8, 16, 32);
        Scene.law(x, 0, "most 1 in 2;");
        planned(x, "one in two", 297, 0, 1, 0, 2, 0, 4);
        Scene.law(x, 0, "most 1 in 6;");
        planned(x, "one in six", 100, 0, 0, 0, 0, 0, 1);
        Scene.law(x, 0, "most 2 in 4;");
        planned(x, "two in four", 394, 1, 2, 0, 0, 4, 8);
        Scene.law(x, 0, "most 2 in 4;most 1 in 2;");
        planned(x, "each such clause", 297, 0, 1, 0, 2, 0, 4);
        x.say(0, 32, 0);
        Scene.law(x, 0, "most 1 in 3;");
        planned(x, "what was said in NOW counts", 100, 0, 0, 0, 1);
        x.go(2);
        planned(x, "what was said two TICKS ago counts", 199, 0, 1, 0, 0, 2);
        x.go(1);
        planned(x, "three TICKS ago is too long", 199, 0, 1, 0, 0, 2);
        planned(x, "three TICKS ago is too long", 100, 1);
        x.say(1, 16, 0);
        planned(x, "one that is refused does not count", 100, 1);
    }

    private static void letByAlways() {
        sheet.says("if all THINGS of a SAYING are so, WAYS and most bar nothing.");
        WhenToSpeak x = free();
        x.thing(1, 1, 0, 7, 10, 0, 60);
        x.thing(1, 1, 0, 3, 90, 0, 60);
        Scene.law(x, 0, "most 0 in 60;always from 7;");
        planned(x, "one alone", 10, 1);
        Scene.law(x, 0, "never way 0;never way 1;never way 2;never way 3;always from 7;");
        planned(x, "by a barred WAY", 10, 1);
        due("by WAY 0", x.plan(0, 1, 0, 1), 0);
        Scene.law(x, 0, "never way 0;always from 7;");
        planned(x, "together by another", 100, 3);
        due("by WAY 1", x.plan(0, 1, 0, 1), 1);
        Scene.law(x, 0, "most 1 in 2;always from 7;");
        planned(x, "it counts for others", 100, 0, 3);
        x.thing(1, 1, 1, 3, 80, 0, 60);
        x.thing(1, 1, 2, 7, 5, 0, 60);
        planned(x, "of always is said when others are barred", 105, 2 | 1, 8);
        planned(x, "not when it would bar others behind it", 180, 3, 0, 4);
    }

    private static void gains() {
        sheet.says("GAIN: VALUES in that TICK, all together times SEEN of the WAY / 100;");
        WhenToSpeak x = free();
        Scene.allWays(x, 50, 0);
        x.thing(1, 1, 0, 0, 1, 0, 60);
        planned(x, "1 times 50 / 100 is 0", 0, 0);
        x.thing(1, 1, 0, 0, 1, 0, 60);
        planned(x, "2 times 50 / 100 is 1", 1, 3);
        Scene.allWays(x, 99, 0);
        planned(x, "2 times 99 / 100 is 1", 1, 3);
        Scene.allWays(x, 100, 0);
        planned(x, "2 times 100 / 100 is 2", 2, 3);
        Scene.allWays(x, 0, 0);
        planned(x, "seen by none", 0, 0);
        WhenToSpeak y = free();
        y.seams(1);
        y.thing(1, 2, 0, 0, 999, 0, 60);
        y.thing(1, 2, 0, 0, 999, 0, 60);
        planned(y, "SEAM ones, each cut", 498, 3);
        WhenToSpeak z = free();
        for (int t = 0; t < 6; t++) {
            z.thing(1, 3 * (t % 2), 0, 0, 999, 0, 60);
        }
        planned(z, "the greatest", 6 * 2999, 63);
    }

    private static void losses() {
        sheet.says("LOSS: for all STATES ODDS ahead times COST / 1000000 (each cut).");
        WhenToSpeak x = new WhenToSpeak();
        Scene.allWays(x, 100, 999);
        x.thing(1, 1, 0, 0, 997, 0, 60);
        planned(x, "4 times 249", 1, 1);
        WhenToSpeak y = free();
        Scene.onlyState(y, 0);
        Scene.goes(y, 0, 0, 1, 0, 0);
        Scene.goes(y, 1, 1, 0, 0, 0);
        for (int way = 0; way < 4; way++) {
            y.cost(way, 1, 999);
        }
        y.thing(1, 1, 0, 0, 500, 0, 60);
        planned(y, "by ODDS ahead: steps 1, 3 and 5 cost too much", 500, 0, 0, 0, 0, 1, 0);
        y.go(1);
        planned(y, "a TICK on", 500, 0, 0, 0, 0, 0, 1);
        planned(y, "never for less", 0, 0);
    }

    private static void mustOnes() {
        sheet.says("VALUE of MUST and TWO ones is 2000 more here, as long as their CLOCK is not behind.");
        for (int kind = 0; kind < 4; kind++) {
            boolean must = kind == 0 || kind == 3;
            WhenToSpeak x = free();
            x.go(2);
            x.thing(1, kind, 0, 0, 0, 0, 4);
            planned(x, "KIND " + kind, must ? 2000 : 0, 0, 0, must ? 1 : 0, 0, 0);
            due("not in VALUE", x.value(0, 0, 0), 0);
            x.go(2);
            planned(x, "at its CLOCK", must ? 2000 : 0, must ? 1 : 0, 0);
            x.go(1);
            planned(x, "behind it", 0, 0, 0);
        }
        WhenToSpeak y = free();
        y.thing(1, 0, 0, 0, 9, 3, 60);
        planned(y, "9 in NOW", 2009, 1, 0, 0);
        y.go(5);
        planned(y, "worn out, but 2000", 2000, 0, 0, 1);
    }

    private static void theMost() {
        sheet.says("THE BEST PLAN: the most GAIN less LOSS;");
        WhenToSpeak x = free();
        x.thing(1, 1, 0, 0, 10, 0, 1);
        x.thing(1, 1, 1, 0, 90, 45, 60);
        x.thing(1, 1, 0, 0, 60, 30, 60);
        // 90 now and 10 + 30 next; 70 now and 45 next are less.
        planned(x, "one MATTER now, the other next", 130, 2, 5);
        planned(x, "one step", 90, 2);
        Scene.allWays(x, 100, 999);
        planned(x, "all cost too much", 0, 0, 0);
        x.cost(3, 0, 0);
        x.cost(3, 1, 0);
        x.cost(3, 2, 0);
        x.cost(3, 3, 140);
        planned(x, "35 off each: 90 and 40", 60, 2, 5);
        x.cost(3, 3, 160);
        planned(x, "40 off each: one pays no more", 50, 2, 0);
        x.cost(3, 3, 359);
        planned(x, "89 off", 1, 2, 0);
        x.cost(3, 3, 360);
        planned(x, "90 off", 0, 0, 0);
    }

    private static void nothingFirst() {
        sheet.says("of like ones the first, step by step: nothing ahead of all,");
        WhenToSpeak x = new WhenToSpeak();
        Scene.allWays(x, 100, 0);
        x.cost(0, 0, 40);
        x.cost(1, 0, 40);
        x.cost(2, 0, 40);
        x.cost(3, 0, 40);
        x.thing(1, 1, 0, 0, 10, 0, 60);
        planned(x, "GAIN is LOSS: nothing", 0, 0, 0);
        due("by no WAY", x.plan(0, 1, 0, 1), NONE);
        x.thing(1, 1, 1, 0, 11, 0, 60);
        planned(x, "1 more: late", 1, 0, 0, 2);
        x.thing(1, 1, 1, 0, 0, 0, 60);
        planned(x, "one worth nothing is not with it", 1, 0, 0, 2);
        WhenToSpeak y = free();
        y.thing(1, 1, 0, 0, 5, 0, 60);
        y.thing(1, 1, 0, 0, 5, 0, 60);
        planned(y, "together or one by one: late, together", 10, 0, 0, 3);
        WhenToSpeak z = free();
        z.thing(1, 1, 0, 0, 5, 0, 1);
        z.thing(1, 1, 0, 0, 5, 0, 60);
        planned(z, "the first as late as it is good, the second behind it", 10, 0, 1, 2);
    }

    private static void setsNext() {
        sheet.says("then by the SET of THINGS,");
        WhenToSpeak x = free();
        x.thing(1, 1, 0, 0, 10, 0, 60);
        x.thing(1, 1, 1, 0, 10, 0, 60);
        x.thing(1, 1, 2, 0, 20, 0, 60);
        x.thing(1, 1, 1, 0, 10, 0, 60);
        planned(x, "THING 2 (4) ahead of 1 and 3 (10)", 20, 4);
        planned(x, "4 ahead of 10 in step 0", 40, 4, 10);
        planned(x, "1, 4, 10", 50, 1, 4, 10);
        planned(x, "nothing, then 1, 4, 10", 50, 0, 1, 4, 10);
        WhenToSpeak y = free();
        y.thing(1, 1, 0, 0, 10, 0, 0);
        y.thing(1, 1, 1, 0, 10, 0, 0);
        planned(y, "the lower", 10, 1, 0);
        WhenToSpeak z = free();
        z.thing(1, 1, 0, 0, 0, 0, 60);
        z.thing(1, 1, 0, 0, 10, 0, 60);
        z.thing(1, 1, 0, 0, 0, 0, 60);
        planned(z, "what adds nothing is left out", 10, 2);
    }

    private static void waysLast() {
        sheet.says("then by WAYS.");
        WhenToSpeak x = new WhenToSpeak();
        x.thing(1, 1, 0, 0, 100, 0, 60);
        due("all alike: 0", x.plan(0, 1, 0, 1), 0);
        x.seen(0, 49);
        due("the first of the best", x.plan(0, 1, 0, 1), 1);
        x.seen(3, 51);
        due("the best", x.plan(0, 1, 0, 1), 3);
        x.cost(3, 2, 14);
        due("one more for one less", x.plan(0, 1, 0, 1), 1);
        x.cost(2, 0, 6);
        due("the cheapest", x.plan(0, 1, 0, 1), 2);
        WhenToSpeak y = free();
        y.seen(0, 90);
        y.seen(1, 90);
        y.thing(1, 1, 0, 0, 20, 0, 60);
        y.thing(1, 1, 1, 0, 18, 0, 60);
        Scene.law(y, 0, "never way 2;never way 3;always from 9;");
        planned(y, "20 by 90 of a hundred", 18, 1);
        due("by WAY 0", y.plan(0, 1, 0, 1), 0);
        y.thing(1, 1, 2, 9, 18, 0, 60);
        planned(y, "THING 0 at 90 is ahead of THING 2 at 100", 18, 1);
        y.dead(0);
        planned(y, "THING 2 by a WAY that is barred for others", 18, 4);
        due("by WAY 2", y.plan(0, 1, 0, 1), 2);
    }

    private static void asking() {
        sheet.says("THE BEST PLAN: i = NONE GAIN less LOSS, else of step i: what = 0 the SET of THINGS (0: nothing), 1 the WAY (NONE).");
        WhenToSpeak x = new WhenToSpeak();
        x.seen(2, 100);
        x.thing(1, 1, 0, 0, 100, 1, 60);
        due("in all", x.plan(0, 6, NONE, 0), 92);
        due("in all, what = 1", x.plan(0, 6, NONE, 1), 92);
        for (int i = 0; i < 6; i++) {
            due("the SET of step " + i, x.plan(0, 6, i, 0), i == 0 ? 1 : 0);
            due("the WAY of step " + i, x.plan(0, 6, i, 1), i == 0 ? 2 : NONE);
        }
        for (int p = 1; p < 4; p++) {
            due("for others", x.plan(p, 6, NONE, 0), 0);
        }
        due("nothing is said by it", x.count(6), 0);
        due("NOW stays", x.count(0), 0);
        due("WAITING", x.told(0, 5), 0);
    }
}
