/** Each promise of the document by hand: ordinary inputs, the edges it names, and wrong inputs. */
public final class PromiseTest {
    private static final int NONE = -1, UNKNOWN = -1001, OUTSIDE = -1002, NOT = -1003, FULL = -1004;
    private static final int LEAST = Integer.MIN_VALUE, MOST = Integer.MAX_VALUE;

    private static int promise;
    private static int wrong;
    private static int checks;

    public static void main(String[] args) {
        newObject();
        move();
        shows();
        begins();
        seams();
        sign();
        go();
        fits();
        odds();
        seam();
        until();
        thing();
        dead();
        told();
        value();
        cost();
        seen();
        loss();
        count();
        feed();
        read();
        fault();
        faultsInEveryPlace();
        barred();
        plan();
        planUnderLaws();
        say();
        came();
        saying();
        learnt();
        who();
        tried();
        allFull();
        fullText();
        System.out.println(checks + " checks, " + wrong + " wrong");
        if (wrong != 0) {
            System.exit(1);
        }
    }

    private static void due(String call, int got, int want) {
        checks++;
        if (got != want) {
            wrong++;
            System.out.println("promise " + promise + ": " + call + " answered " + got + ", due is " + want);
        }
    }

    private static WhenToSpeak fresh(int number) {
        promise = number;
        return new WhenToSpeak();
    }

    private static void feedAll(WhenToSpeak x, String text) {
        for (int i = 0; i < text.length(); i++) {
            x.feed(1, text.charAt(i));
        }
    }

    private static int law(WhenToSpeak x, int p, String text) {
        feedAll(x, text);
        return x.read(p);
    }

    /** One STATE alone is possible, so all ODDS are on it. */
    private static void onlyState(WhenToSpeak x, int state) {
        for (int i = 0; i < 4; i++) {
            x.begins(i, i == state ? 1 : 0);
            for (int j = 0; j < 4; j++) {
                x.move(i, j, i == j ? 1 : 0);
            }
        }
    }

    private static void newObject() {
        WhenToSpeak x = fresh(1);
        for (int what = 0; what <= 7; what++) {
            due("count(" + what + ")", x.count(what), 0);
        }
        due("fault()", x.fault(), NONE);
        for (int p = 0; p < 4; p++) {
            due("odds", x.odds(p, p, 0), 250000);
            due("fits", x.fits(p, 0), 4);
            due("plan", x.plan(p, 6, NONE, 0), 0);
        }
        due("told(0, 0)", x.told(0, 0), UNKNOWN);
        due("saying(0, 0)", x.saying(0, 0), UNKNOWN);
        WhenToSpeak y = fresh(1);
        x.go(3);
        x.thing(1, 0, 0, 0, 1, 0, 9);
        due("another object's count(0)", y.count(0), 0);
        due("another object's count(1)", y.count(1), 0);
    }

    private static void move() {
        WhenToSpeak x = fresh(2);
        for (int i = 0; i < 4; i++) {
            for (int j = 0; j < 4; j++) {
                due("move, first", x.move(i, j, (i + j) % 5), 1);
            }
        }
        for (int i = 0; i < 4; i++) {
            for (int j = 0; j < 4; j++) {
                due("move, again", x.move(i, j, 4), (i + j) % 5);
            }
        }
        due("move(-1, 0, 0)", x.move(-1, 0, 0), OUTSIDE);
        due("move(4, 0, 0)", x.move(4, 0, 0), OUTSIDE);
        due("move(0, -1, 0)", x.move(0, -1, 0), OUTSIDE);
        due("move(0, 4, 0)", x.move(0, 4, 0), OUTSIDE);
        due("move(0, 0, -1)", x.move(0, 0, -1), OUTSIDE);
        due("move(0, 0, 5)", x.move(0, 0, 5), OUTSIDE);
        due("move(least)", x.move(LEAST, LEAST, LEAST), OUTSIDE);
        due("move(most)", x.move(MOST, MOST, MOST), OUTSIDE);
        due("what is refused changes nothing", x.move(0, 0, 0), 4);
    }

    private static void shows() {
        WhenToSpeak x = fresh(3);
        due("shows(3, 3, 0)", x.shows(3, 3, 0), 1);
        due("shows(3, 3, 4)", x.shows(3, 3, 4), 0);
        due("shows(3, 3, 2)", x.shows(3, 3, 2), 4);
        due("shows(0, 3, 1)", x.shows(0, 3, 1), 1);
        due("shows(4, 0, 0)", x.shows(4, 0, 0), OUTSIDE);
        due("shows(-1, 0, 0)", x.shows(-1, 0, 0), OUTSIDE);
        due("shows(0, 4, 0)", x.shows(0, 4, 0), OUTSIDE);
        due("shows(0, -1, 0)", x.shows(0, -1, 0), OUTSIDE);
        due("shows(0, 0, 5)", x.shows(0, 0, 5), OUTSIDE);
        due("shows(0, 0, -1)", x.shows(0, 0, -1), OUTSIDE);
        x.sign(0, 3);
        due("odds by shows", x.odds(0, 3, 0), 400000);
        due("another sign's odds", x.odds(1, 3, 0), 250000);
    }

    private static void begins() {
        WhenToSpeak x = fresh(4);
        due("begins(2, 4)", x.begins(2, 4), 1);
        due("begins(2, 3)", x.begins(2, 3), 4);
        due("begins(0, 0)", x.begins(0, 0), 1);
        due("begins(-1, 0)", x.begins(-1, 0), OUTSIDE);
        due("begins(4, 0)", x.begins(4, 0), OUTSIDE);
        due("begins(0, 5)", x.begins(0, 5), OUTSIDE);
        due("begins(0, -1)", x.begins(0, -1), OUTSIDE);
        due("odds of 0", x.odds(3, 0, 0), 0);
        due("odds of 1", x.odds(3, 1, 0), 200000);
        due("odds of 2", x.odds(3, 2, 0), 600000);
    }

    private static void seams() {
        WhenToSpeak x = fresh(5);
        due("seams(15)", x.seams(15), 0);
        due("seams(6)", x.seams(6), 15);
        due("seams(16)", x.seams(16), OUTSIDE);
        due("seams(-1)", x.seams(-1), OUTSIDE);
        due("seams(0)", x.seams(0), 6);
    }

    private static void sign() {
        WhenToSpeak x = fresh(6);
        x.shows(0, 0, 0);
        x.shows(1, 1, 0);
        due("sign(0, 0)", x.sign(0, 0), 1);
        due("fits with 0", x.fits(0, 0), 3);
        due("odds with 0", x.odds(0, 0, 0), 0);
        due("sign(0, 1)", x.sign(0, 1), 1);
        due("the last one told holds", x.odds(0, 1, 0), 0);
        due("the last one told holds", x.odds(0, 0, 0), 333333);
        due("sign(0, NONE)", x.sign(0, NONE), 1);
        due("blank again", x.fits(0, 0), 4);
        due("sign(0, 3)", x.sign(0, 3), 1);
        due("sign(3, 0)", x.sign(3, 0), 1);
        due("persons are apart", x.fits(3, 0), 3);
        due("persons are apart", x.fits(0, 0), 4);
        due("sign(-1, 0)", x.sign(-1, 0), UNKNOWN);
        due("sign(4, 9)", x.sign(4, 9), UNKNOWN);
        due("sign(0, 4)", x.sign(0, 4), OUTSIDE);
        due("sign(0, -2)", x.sign(0, -2), OUTSIDE);
        x.go(1);
        due("a new TICK is blank", x.fits(3, 1), 12);
        x.sign(3, 1);
        due("the sign is of NOW alone", x.fits(3, 0), 3);
        due("both signs", x.fits(3, 1), 9);
    }

    private static void go() {
        WhenToSpeak x = fresh(7);
        due("go(0)", x.go(0), 0);
        due("go(20)", x.go(20), 20);
        due("go(21)", x.go(21), OUTSIDE);
        due("go(-1)", x.go(-1), OUTSIDE);
        due("go(20)", x.go(20), 40);
        due("go(19)", x.go(19), 59);
        due("go(2)", x.go(2), NOT);
        due("go(21), outside first", x.go(21), OUTSIDE);
        due("go(most)", x.go(MOST), OUTSIDE);
        due("go(1)", x.go(1), 60);
        due("go(1)", x.go(1), NOT);
        due("go(0)", x.go(0), 60);
    }

    private static void fits() {
        WhenToSpeak x = fresh(8);
        x.go(9);
        due("one TICK", x.fits(0, 0), 4);
        due("two TICKS", x.fits(0, 1), 16);
        due("seven TICKS", x.fits(0, 6), 16384);
        due("seven TICKS at most", x.fits(0, 9), 16384);
        due("fits(4, 0)", x.fits(4, 0), UNKNOWN);
        due("fits(-1, 99)", x.fits(-1, 99), UNKNOWN);
        due("fits(0, 10)", x.fits(0, 10), OUTSIDE);
        due("fits(0, -1)", x.fits(0, -1), OUTSIDE);
        x.begins(0, 0);
        due("BEGINS of the first looked at", x.fits(0, 9), 12288);
        x.move(1, 1, 0);
        due("a way that never goes", x.fits(0, 1), 11);
        WhenToSpeak y = fresh(8);
        y.shows(0, 0, 0);
        y.shows(1, 0, 0);
        y.sign(0, 0);
        y.go(6);
        due("a sign six TICKS ago counts", y.fits(0, 6), 8192);
        y.go(1);
        due("a sign seven TICKS ago does not", y.fits(0, 7), 16384);
        due("the row to an earlier TICK", y.fits(0, 1), 8);
    }

    private static void odds() {
        WhenToSpeak x = fresh(9);
        x.begins(0, 2);
        due("2 of 5", x.odds(0, 0, 0), 400000);
        x.move(0, 1, 2);
        // From 0: 1 2 1 1 of 5, from the others 1 of 4 each.
        due("ahead, each cut", x.odds(0, 1, 1), 160000 + 3 * 50000);
        due("ahead, each cut", x.odds(0, 0, 1), 80000 + 3 * 50000);
        x.begins(1, 0);
        x.begins(2, 0);
        x.begins(3, 4);
        due("1 of 3", x.odds(0, 0, 0), 333333);
        due("2 of 3", x.odds(0, 3, 0), 666666);
        due("cut ones", x.odds(0, 0, 1), 66666 + 166666);
        for (int j = 0; j < 4; j++) {
            x.move(0, j, 0);
        }
        due("a STATE without GO goes nowhere", x.odds(0, 1, 1), 166666);
        due("odds(4, 0, 0)", x.odds(4, 0, 0), UNKNOWN);
        due("odds(-1, 9, 9)", x.odds(-1, 9, 9), UNKNOWN);
        due("odds(0, 4, 0)", x.odds(0, 4, 0), OUTSIDE);
        due("odds(0, -1, 0)", x.odds(0, -1, 0), OUTSIDE);
        due("odds(0, 0, 9)", x.odds(0, 0, 9), OUTSIDE);
        due("odds(0, 0, -1)", x.odds(0, 0, -1), OUTSIDE);
        x.begins(0, 0);
        x.begins(3, 0);
        due("no ROW", x.odds(0, 3, 0), 0);
        due("no ROW, ahead", x.odds(0, 3, 8), 0);
        due("no ROW fits", x.fits(0, 0), 0);
        greatestWeights();
    }

    /** All WEIGHTS at their greatest are 2 to the 42nd, times a million close to the end of a long. */
    private static void greatestWeights() {
        WhenToSpeak x = fresh(9);
        for (int i = 0; i < 4; i++) {
            x.begins(i, 4);
            x.shows(i, 0, 4);
            for (int j = 0; j < 4; j++) {
                x.move(i, j, 4);
            }
        }
        for (int t = 0; t < 7; t++) {
            x.sign(0, 0);
            x.go(t < 6 ? 1 : 0);
        }
        due("greatest weights", x.odds(0, 2, 0), 250000);
        x.shows(0, 1, 0);
        x.shows(1, 1, 0);
        x.shows(2, 1, 0);
        x.shows(3, 1, 4);
        x.sign(0, 1);
        due("all on one", x.odds(0, 3, 0), 1000000);
        due("all on one, ahead", x.odds(0, 3, 1), 250000);
    }

    private static void seam() {
        WhenToSpeak x = fresh(10);
        x.begins(0, 2);
        x.seams(5);
        due("states 0 and 2", x.seam(0, 0), 600000);
        x.seams(15);
        due("all states", x.seam(0, 8), 1000000);
        x.move(1, 0, 0);
        due("cut ones are lost", x.seam(0, 1), 400000 + 3 * 66666 + 2 * 200000);
        x.seams(0);
        due("none", x.seam(0, 0), 0);
        due("seam(4, 0)", x.seam(4, 0), UNKNOWN);
        due("seam(-1, 9)", x.seam(-1, 9), UNKNOWN);
        due("seam(0, 9)", x.seam(0, 9), OUTSIDE);
        due("seam(0, -1)", x.seam(0, -1), OUTSIDE);
    }

    private static void until() {
        WhenToSpeak x = fresh(11);
        onlyState(x, 0);
        x.seams(8);
        for (int i = 0; i < 3; i++) {
            x.move(i, i, 0);
            x.move(i, i + 1, 1);
        }
        due("three TICKS on", x.until(0, 1000000), 3);
        due("any", x.until(0, 0), 0);
        due("one in a million", x.until(0, 1), 3);
        x.seams(4);
        due("there and gone", x.until(0, 1000000), 2);
        x.seams(0);
        due("not by 8", x.until(0, 1), NONE);
        x.seams(2);
        for (int i = 0; i < 4; i++) {
            x.move(0, i, i == 0 ? 4 : i == 1 ? 1 : 0);
        }
        x.move(1, 2, 0);
        x.move(1, 1, 1);
        // What has not gone over after eight TICKS: 0.8 each time, cut to 167769 (of 167772).
        int left = 1000000;
        int gone = 0;
        for (int k = 1; k <= 8; k++) {
            gone += left / 5;
            left = left * 4 / 5;
        }
        due("at 8, just", x.until(0, gone), 8);
        due("at 8, one short", x.until(0, gone + 1), NONE);
        due("until(4, 0)", x.until(4, 0), UNKNOWN);
        due("until(-1, -1)", x.until(-1, -1), UNKNOWN);
        due("until(0, -1)", x.until(0, -1), OUTSIDE);
        due("until(0, 1000001)", x.until(0, 1000001), OUTSIDE);
    }

    private static void thing() {
        WhenToSpeak x = fresh(12);
        due("the greatest", x.thing(15, 3, 5, 9, 999, 99, 60), 0);
        x.go(4);
        due("the least", x.thing(1, 0, 0, 0, 0, 0, 4), 1);
        due("no persons", x.thing(0, 0, 0, 0, 0, 0, 9), UNKNOWN);
        due("bit 4", x.thing(17, 0, 0, 0, 0, 0, 9), UNKNOWN);
        due("the highest bit", x.thing(LEAST + 1, 9, 9, 99, 0, 0, 9), UNKNOWN);
        due("kind 4", x.thing(1, 4, 0, 0, 0, 0, 9), OUTSIDE);
        due("kind -1", x.thing(1, -1, 0, 0, 0, 0, 9), OUTSIDE);
        due("matter 6", x.thing(1, 0, 6, 0, 0, 0, 9), OUTSIDE);
        due("matter -1", x.thing(1, 0, -1, 0, 0, 0, 9), OUTSIDE);
        due("from 10", x.thing(1, 0, 0, 10, 0, 0, 9), OUTSIDE);
        due("from -1", x.thing(1, 0, 0, -1, 0, 0, 9), OUTSIDE);
        due("worth 1000", x.thing(1, 0, 0, 0, 1000, 0, 9), OUTSIDE);
        due("worth -1", x.thing(1, 0, 0, 0, -1, 0, 9), OUTSIDE);
        due("less 100", x.thing(1, 0, 0, 0, 0, 100, 9), OUTSIDE);
        due("less -1", x.thing(1, 0, 0, 0, 0, -1, 9), OUTSIDE);
        due("clock 61", x.thing(1, 0, 0, 0, 0, 0, 61), OUTSIDE);
        due("clock 3", x.thing(1, 0, 0, 0, 0, 0, 3), OUTSIDE);
        for (int t = 2; t < 10; t++) {
            due("one more", x.thing(8, 1, 1, 1, 1, 1, 10), t);
        }
        due("an eleventh", x.thing(8, 1, 1, 1, 1, 1, 10), FULL);
        due("outside ahead of full", x.thing(8, 9, 1, 1, 1, 1, 10), OUTSIDE);
        due("unknown ahead of full", x.thing(16, 1, 1, 1, 1, 1, 10), UNKNOWN);
        due("ten", x.count(1), 10);
    }

    private static void dead() {
        WhenToSpeak x = fresh(13);
        due("dead(0)", x.dead(0), UNKNOWN);
        x.thing(3, 1, 0, 0, 5, 0, 9);
        x.thing(3, 1, 0, 0, 5, 0, 9);
        x.thing(3, 1, 0, 0, 5, 0, 9);
        x.say(0, 3, 0);
        x.say(1, 1, 0);
        x.say(0, 5, 0);
        x.came(0, 1);
        x.came(1, 2);
        x.came(2, 3);
        due("in three, whatever came of them", x.dead(0), 3);
        due("in one", x.dead(1), 1);
        due("again", x.dead(0), NOT);
        due("dead(-1)", x.dead(-1), UNKNOWN);
        due("dead(3)", x.dead(3), UNKNOWN);
        due("it is DEAD though TOLD", x.told(0, 5), 2);
        due("in how many", x.told(0, 6), 3);
        x.go(10);
        due("DEAD is not LATE", x.told(0, 5), 2);
        due("DEAD is not said", x.say(0, 1, 0), NOT);
        x.thing(1, 0, 0, 0, 5, 0, 60);
        due("in none", x.dead(3), 0);
    }

    private static void told() {
        WhenToSpeak x = fresh(14);
        x.go(2);
        x.thing(5, 1, 4, 8, 100, 3, 7);
        int[] want = {5, 1, 4, 8, 7, 0, 0, 2};
        for (int what = 0; what < 8; what++) {
            due("told(0, " + what + ")", x.told(0, what), want[what]);
        }
        due("told(0, 8)", x.told(0, 8), OUTSIDE);
        due("told(0, -1)", x.told(0, -1), OUTSIDE);
        due("told(1, 0)", x.told(1, 0), UNKNOWN);
        due("told(-1, 9)", x.told(-1, 9), UNKNOWN);
        x.go(5);
        due("at its CLOCK", x.told(0, 5), 0);
        x.go(1);
        due("LATE", x.told(0, 5), 3);
        x.say(0, 1, 0);
        due("TOLD though behind its CLOCK", x.told(0, 5), 1);
        x.came(0, 2);
        due("put by is TOLD", x.told(0, 5), 1);
        x.say(2, 1, 0);
        due("in two SAYINGS", x.told(0, 6), 2);
        WhenToSpeak y = fresh(14);
        y.thing(1, 1, 0, 0, 1, 0, 3);
        y.say(0, 1, 0);
        y.say(0, 1, 0);
        y.came(0, 3);
        due("one of two is wiped", y.told(0, 5), 1);
        y.came(1, 3);
        due("both are wiped", y.told(0, 5), 0);
        y.go(4);
        due("wiped and behind its CLOCK", y.told(0, 5), 3);
        y.dead(0);
        due("DEAD", y.told(0, 5), 2);
        two();
    }

    private static void two() {
        WhenToSpeak x = fresh(14);
        x.thing(7, 3, 0, 0, 1, 0, 3);
        x.say(0, 1, 0);
        x.say(0, 1, 0);
        x.say(1, 1, 0);
        x.say(2, 1, 0);
        due("said to three, seen by none", x.told(0, 5), 0);
        x.came(0, 1);
        x.came(1, 1);
        due("seen by one, twice", x.told(0, 5), 0);
        x.came(2, 2);
        due("put by the second", x.told(0, 5), 0);
        x.go(4);
        due("LATE, seen by one", x.told(0, 5), 3);
        x.came(3, 1);
        due("seen by two", x.told(0, 5), 1);
        x.thing(14, 3, 0, 0, 1, 0, 60);
        x.came(x.say(3, 2, 0), 1);
        due("seen by the last PERSON alone", x.told(1, 5), 0);
        x.came(x.say(1, 2, 0), 1);
        due("and by another", x.told(1, 5), 1);
    }

    private static void value() {
        WhenToSpeak x = fresh(15);
        x.go(1);
        x.thing(1, 1, 0, 0, 100, 30, 5);
        x.thing(1, 2, 0, 0, 999, 0, 9);
        x.thing(1, 0, 0, 0, 7, 0, 60);
        x.thing(1, 3, 0, 0, 7, 1, 60);
        due("now", x.value(0, 0, 0), 100);
        due("ahead by 3", x.value(0, 0, 3), 10);
        due("0 at least", x.value(0, 0, 4), 0);
        due("no SEAMS", x.value(1, 0, 0), 0);
        x.seams(1);
        due("a quarter, cut", x.value(1, 0, 0), 249);
        x.shows(0, 1, 3);
        x.sign(0, 1);
        due("a half, cut", x.value(1, 0, 0), 499);
        due("ahead a quarter", x.value(1, 0, 8), 249);
        x.go(1);
        due("ahead by 8 is behind its CLOCK", x.value(1, 0, 8), 0);
        due("MUST is not more here", x.value(2, 0, 8), 7);
        due("TWO is not more here", x.value(3, 0, 0), 6);
        due("one TICK on", x.value(0, 0, 0), 70);
        due("another PERSON", x.value(0, 3, 0), 70);
        x.shows(0, 2, 0);
        x.sign(2, 2);
        due("SEAM by its PERSON", x.value(1, 2, 0), 0);
        due("value(4, 0, 0)", x.value(4, 0, 0), UNKNOWN);
        due("value(-1, 0, 0)", x.value(-1, 0, 0), UNKNOWN);
        due("value(0, 4, 0)", x.value(0, 4, 0), UNKNOWN);
        due("value(0, -1, 9)", x.value(0, -1, 9), UNKNOWN);
        due("value(0, 0, 9)", x.value(0, 0, 9), OUTSIDE);
        due("value(0, 0, -1)", x.value(0, 0, -1), OUTSIDE);
        x.dead(2);
        due("DEAD", x.value(2, 0, 0), 0);
        WhenToSpeak y = fresh(15);
        y.thing(1, 0, 0, 0, 50, 1, 3);
        due("at its CLOCK", y.value(0, 0, 3), 47);
        due("behind it", y.value(0, 0, 4), 0);
        y.say(0, 1, 0);
        due("TOLD ones keep it", y.value(0, 0, 0), 50);
    }

    private static void cost() {
        WhenToSpeak x = fresh(16);
        due("cost(3, 3, 999)", x.cost(3, 3, 999), 10);
        due("cost(3, 3, 0)", x.cost(3, 3, 0), 999);
        due("cost(3, 2, 0)", x.cost(3, 2, 0), 10);
        due("cost(4, 0, 0)", x.cost(4, 0, 0), OUTSIDE);
        due("cost(-1, 0, 0)", x.cost(-1, 0, 0), OUTSIDE);
        due("cost(0, 4, 0)", x.cost(0, 4, 0), OUTSIDE);
        due("cost(0, -1, 0)", x.cost(0, -1, 0), OUTSIDE);
        due("cost(0, 0, 1000)", x.cost(0, 0, 1000), OUTSIDE);
        due("cost(0, 0, -1)", x.cost(0, 0, -1), OUTSIDE);
        due("cost(0, 0, 1)", x.cost(0, 0, 1), 10);
    }

    private static void seen() {
        WhenToSpeak x = fresh(17);
        due("seen(3, 100)", x.seen(3, 100), 50);
        due("seen(3, 0)", x.seen(3, 0), 100);
        due("seen(4, 0)", x.seen(4, 0), OUTSIDE);
        due("seen(-1, 0)", x.seen(-1, 0), OUTSIDE);
        due("seen(0, 101)", x.seen(0, 101), OUTSIDE);
        due("seen(0, -1)", x.seen(0, -1), OUTSIDE);
        due("seen(0, 1)", x.seen(0, 1), 50);
    }

    private static void loss() {
        WhenToSpeak x = fresh(18);
        due("10 each, cut", x.loss(0, 0, 0), 8);
        x.cost(2, 0, 999);
        x.cost(2, 1, 3);
        x.cost(2, 2, 0);
        x.cost(2, 3, 4);
        due("249 and 0 and 0 and 1", x.loss(0, 2, 0), 250);
        onlyState(x, 0);
        x.move(0, 0, 0);
        x.move(0, 1, 1);
        due("now in 0", x.loss(1, 2, 0), 999);
        due("ahead in 1", x.loss(1, 2, 1), 3);
        due("loss(4, 0, 0)", x.loss(4, 0, 0), UNKNOWN);
        due("loss(-1, 9, 9)", x.loss(-1, 9, 9), UNKNOWN);
        due("loss(0, 4, 0)", x.loss(0, 4, 0), OUTSIDE);
        due("loss(0, -1, 0)", x.loss(0, -1, 0), OUTSIDE);
        due("loss(0, 0, 9)", x.loss(0, 0, 9), OUTSIDE);
        due("loss(0, 0, -1)", x.loss(0, 0, -1), OUTSIDE);
    }

    private static void count() {
        WhenToSpeak x = fresh(19);
        x.go(1);
        x.thing(1, 1, 0, 0, 1, 0, 1);
        x.thing(1, 1, 0, 0, 1, 0, 1);
        x.thing(1, 1, 0, 0, 1, 0, 2);
        x.thing(1, 1, 0, 0, 1, 0, 1);
        x.thing(1, 1, 0, 0, 1, 0, 1);
        x.thing(1, 1, 0, 0, 1, 0, 1);
        x.thing(1, 1, 0, 0, 1, 0, 60);
        x.say(0, 1, 0);
        x.dead(1);
        x.feed(3, 0);
        x.go(1);
        int[] want = {2, 7, 2, 1, 1, 3, 1, 3};
        for (int what = 0; what < 8; what++) {
            due("count(" + what + ")", x.count(what), want[what]);
        }
        due("count(8)", x.count(8), OUTSIDE);
        due("count(-1)", x.count(-1), OUTSIDE);
    }

    private static void feed() {
        WhenToSpeak x = fresh(20);
        due("feed(0, 0)", x.feed(0, 0), OUTSIDE);
        due("feed(9, 0)", x.feed(9, 0), OUTSIDE);
        due("feed(-1, 0)", x.feed(-1, 0), OUTSIDE);
        // 'always' 'fr' 'om4;' with other bytes above those that count.
        due("feed, the highest first", x.feed(6, 0x7878616c77617973L), 6);
        due("feed, the highest first", x.feed(8, 0x202066726f6d2034L), 14);
        due("feed, one byte", x.feed(1, 0x7878783bL), 15);
        due("read it", x.read(0), 1);
        x.thing(1, 1, 0, 4, 1, 0, 60);
        law(x, 0, "always from 4; never way 0;");
        due("and it stands", x.barred(0, 1, 0), 0);
        for (int i = 1; i <= 19; i++) {
            due("feed 8", x.feed(8, 0x2020202020202020L), 8 * i);
        }
        due("feed 7", x.feed(7, 0x2020202020202020L), 159);
        due("feed 2", x.feed(2, 0x2020L), FULL);
        due("outside ahead of full", x.feed(9, 0), OUTSIDE);
        due("feed 1", x.feed(1, -1L), 160);
        due("feed 1 more", x.feed(1, 0), FULL);
        due("count", x.count(7), 160);
        due("a byte of 255", x.read(0), -11);
        due("at the last byte", x.fault(), 159);
    }

    private static void read() {
        WhenToSpeak x = fresh(21);
        due("an empty text", x.read(3), 0);
        due("blanks alone", law(x, 0, "   "), 0);
        due("as tight as can be", law(x, 0, "never way0;never way1state2 3;never kind3after60;most9in60;always from9;"), 5);
        due("as wide as can be", law(x, 0, "  never  way  0  ;  most  0  in  1  ; "), 2);
        due("figures with noughts ahead", law(x, 0, "most 009 in 060;"), 1);
        due("eight", law(x, 0, "never way 0;never way 0;never way 0;never way 0;never way 0;never way 0;never way 0;never way 0;"), 8);
        x.thing(15, 1, 0, 0, 1, 0, 60);
        due("never way 0", x.barred(0, 1, 0), 1);
        due("never way 1", x.barred(0, 1, 1), 0);
        feedAll(x, "never way 1");
        due("UNKNOWN", x.read(4), UNKNOWN);
        due("UNKNOWN", x.read(-1), UNKNOWN);
        due("THE TEXT stays", x.count(7), 11);
        due("the end is no place to end", x.read(0), -11);
        due("THE TEXT is empty then", x.count(7), 0);
        due("LAWS are as they were", x.barred(0, 1, 0), 1);
        due("LAWS are as they were", x.barred(0, 1, 1), 0);
        due("another PERSON's", law(x, 1, "never way 2;"), 1);
        due("each PERSON has its own", x.barred(1, 1, 0), 0);
        due("each PERSON has its own", x.barred(1, 1, 2), 1);
        due("each PERSON has its own", x.barred(0, 1, 0), 1);
        due("an empty text takes them away", x.read(0), 0);
        due("none are left", x.barred(0, 1, 0), 0);
        due("but only of that PERSON", x.barred(1, 1, 2), 1);
        due("a new text takes the place of the old", law(x, 1, "never way 3;"), 1);
        due("the old is gone", x.barred(1, 1, 2), 0);
    }

    private static void fault() {
        WhenToSpeak x = fresh(22);
        law(x, 0, "most 10 in 5;");
        due("where it is", x.fault(), 5);
        x.read(7);
        due("an UNKNOWN read leaves it", x.fault(), 5);
        law(x, 0, "most 1 in 5;");
        due("none", x.fault(), NONE);
        law(x, 0, "x");
        x.read(0);
        due("an empty text has none", x.fault(), NONE);
    }

    private static void faulty(String text, int kind, int at) {
        WhenToSpeak x = fresh(21);
        due("read of <" + text + ">", law(x, 2, text), -10 - kind);
        promise = 22;
        due("fault of <" + text + ">", x.fault(), at);
    }

    private static void faultsInEveryPlace() {
        String eight = "most 1 in 1;most 1 in 1;most 1 in 1;most 1 in 1;most 1 in 1;most 1 in 1;most 1 in 1;most 1 in 1;";
        faulty(";", 1, 0);
        faulty("  7", 1, 2);
        faulty("  1234", 1, 2);
        faulty("nev", 1, 0);
        faulty("neverway 1;", 1, 0);
        faulty("xever way 1;", 1, 0);
        faulty("nevex way 1;", 1, 0);
        faulty("never wayz 1;", 1, 6);
        faulty("never wa{ 1;", 1, 6);
        faulty("Never way 1;", 1, 0);
        faulty("neveR way 1;", 1, 0);
        faulty("never", 1, 5);
        faulty("never  ", 1, 7);
        faulty("never waya 1;", 1, 6);
        faulty("never from 1;", 1, 6);
        faulty("never 1;", 1, 6);
        faulty("never way;", 1, 9);
        faulty("never way 4;", 2, 10);
        faulty("never way 0001;", 2, 10);
        faulty("never way 1 2;", 1, 12);
        faulty("never way 12;", 2, 10);
        faulty("never way 1 1234;", 1, 12);
        faulty("never way 1 stat 2;", 1, 12);
        faulty("never way 1,", 1, 11);
        faulty("never way 1 state", 1, 17);
        faulty("never way 1 state 4 100;", 2, 18);
        faulty("never way 1 state 3;", 1, 19);
        faulty("never way 1 state 3 101;", 2, 20);
        faulty("never way 1 state 3 100", 1, 23);
        faulty("never way 1 state 350;", 2, 18);
        faulty("never way 1 state 3 100 state 3 100;", 1, 24);
        faulty("never kind 4 after 3;", 2, 11);
        faulty("never kind 3;", 1, 12);
        faulty("never kind 3 after;", 1, 18);
        faulty("never kind 3 after 61;", 2, 19);
        faulty("never kind 3 state 3;", 1, 13);
        faulty("most;", 1, 4);
        faulty("most 10 in 1;", 2, 5);
        faulty("most 1 1;", 1, 7);
        faulty("most 1 in 0;", 2, 10);
        faulty("most 1 in 61;", 2, 10);
        faulty("most 1 in 1 1;", 1, 12);
        faulty("most 1 inn 1;", 1, 7);
        faulty("always 1;", 1, 7);
        faulty("always from 10;", 2, 12);
        faulty("always from -1;", 1, 12);
        faulty("always from 1", 1, 13);
        faulty("always from 1;;", 1, 14);
        faulty("always\tfrom 1;", 1, 6);
        faulty(eight + "never", 3, 96);
        faulty(eight + " most 99999;", 3, 97);
        faulty(eight + "always", 3, 96);
        faulty(eight + "alway from", 1, 96);
        faulty(eight + ";", 1, 96);
        faulty(eight + "5", 1, 96);
        faulty("most 1 in 1;most 10 in 1;x", 2, 17);
        faulty("most 1 in 1" + (char) 0 + ";", 1, 11);
    }

    private static void barred() {
        WhenToSpeak x = fresh(23);
        x.thing(1, 1, 0, 3, 1, 0, 60);
        x.thing(1, 2, 1, 4, 1, 0, 60);
        law(x, 0, "never way 0 state 1 25;never way 1 state 1 26;never way 2 state 1 0;never kind 1 after 0;most 0 in 1;always from 4;");
        due("odds are just so", x.barred(0, 1, 0), 1);
        due("odds are less; most 0", x.barred(0, 1, 1), 3);
        due("a state of 0 of a hundred is always so", x.barred(0, 1, 2), 1);
        due("always", x.barred(0, 2, 0), 0);
        due("one of two is always", x.barred(0, 3, 0), 1);
        due("one of two is always", x.barred(0, 3, 1), 3);
        x.go(1);
        due("a KIND in TICK 1", x.barred(0, 1, 1), 2);
        due("a KIND in TICK 1, the other of always", x.barred(0, 3, 1), 2);
        due("the WAY is first", x.barred(0, 3, 0), 1);
        due("no laws", x.barred(1, 3, 0), 0);
        due("barred(4, 1, 0)", x.barred(4, 1, 0), UNKNOWN);
        due("barred(-1, 1, 9)", x.barred(-1, 1, 9), UNKNOWN);
        due("barred(0, 0, 0)", x.barred(0, 0, 0), UNKNOWN);
        due("barred(0, 4, 9)", x.barred(0, 4, 9), UNKNOWN);
        due("barred(0, least, 0)", x.barred(0, LEAST + 1, 0), UNKNOWN);
        due("barred(0, 1, 4)", x.barred(0, 1, 4), OUTSIDE);
        due("barred(0, 1, -1)", x.barred(0, 1, -1), OUTSIDE);
        law(x, 0, "never kind 1 after 9;never kind 2 after 0;always from 3;");
        due("only the KIND of one that is not of always", x.barred(0, 3, 0), 2);
        due("always", x.barred(0, 1, 0), 0);
        x.dead(1);
        due("DEAD or not for it: it is LET", x.barred(2, 3, 0), 0);
        closeOdds();
        most();
    }

    private static void closeOdds() {
        WhenToSpeak x = fresh(23);
        x.thing(1, 0, 0, 0, 1, 0, 60);
        x.begins(0, 4);
        x.begins(1, 2);
        x.begins(2, 0);
        x.begins(3, 0);
        law(x, 0, "never way 0 state 0 67;never way 1 state 0 66;never way 2 state 1 34;never way 3 state 1 33;");
        due("666666 are not 67 of a hundred", x.barred(0, 1, 0), 0);
        due("666666 are 66 of a hundred", x.barred(0, 1, 1), 1);
        due("333333 are not 34 of a hundred", x.barred(0, 1, 2), 0);
        due("333333 are 33 of a hundred", x.barred(0, 1, 3), 1);
        x.go(1);
        law(x, 0, "never kind 0 after 0;");
        due("KIND 0", x.barred(0, 1, 0), 2);
        law(x, 0, "never kind 0 after 1;");
        due("after TICK 1", x.barred(0, 1, 0), 0);
        law(x, 0, "never kind 0 after 0;always from 0;");
        due("always from 0", x.barred(0, 1, 0), 0);
    }

    private static void most() {
        WhenToSpeak x = fresh(23);
        x.thing(3, 1, 0, 3, 1, 0, 60);
        x.thing(3, 1, 0, 4, 1, 0, 60);
        law(x, 0, "most 2 in 3;most 3 in 5;always from 4;");
        x.say(0, 1, 0);
        x.say(1, 1, 0);
        due("another PERSON's do not count", x.barred(0, 1, 0), 0);
        x.say(0, 2, 0);
        due("one of always counts", x.barred(0, 1, 0), 3);
        due("one of always is not barred", x.barred(0, 2, 0), 0);
        x.came(0, 3);
        due("a wiped one counts", x.barred(0, 1, 0), 3);
        x.go(2);
        due("the third TICK", x.barred(0, 1, 0), 3);
        x.go(1);
        due("the fourth TICK", x.barred(0, 1, 0), 0);
        x.say(0, 1, 0);
        x.go(1);
        due("three in five", x.barred(0, 1, 0), 3);
        x.go(1);
        due("two of them are gone", x.barred(0, 1, 0), 0);
    }

    private static void plan() {
        WhenToSpeak x = fresh(24);
        due("plan(4, 1, 0, 0)", x.plan(4, 1, 0, 0), UNKNOWN);
        due("plan(-1, 9, 9, 9)", x.plan(-1, 9, 9, 9), UNKNOWN);
        due("plan(0, 0, 0, 0)", x.plan(0, 0, 0, 0), OUTSIDE);
        due("plan(0, 7, 0, 0)", x.plan(0, 7, 0, 0), OUTSIDE);
        due("plan(0, 6, 6, 0)", x.plan(0, 6, 6, 0), OUTSIDE);
        due("plan(0, 6, -2, 0)", x.plan(0, 6, -2, 0), OUTSIDE);
        due("plan(0, 1, 1, 0)", x.plan(0, 1, 1, 0), OUTSIDE);
        due("plan(0, 6, 5, 2)", x.plan(0, 6, 5, 2), OUTSIDE);
        due("plan(0, 6, 5, -1)", x.plan(0, 6, 5, -1), OUTSIDE);
        due("no THINGS", x.plan(0, 6, 5, 0), 0);
        due("no WAY", x.plan(0, 6, 5, 1), NONE);
        x.thing(1, 1, 0, 0, 16, 0, 60);
        due("gain is not above loss", x.plan(0, 1, NONE, 0), 0);
        due("then nothing is ahead", x.plan(0, 1, 0, 0), 0);
        x.seen(2, 57);
        due("9 less 8", x.plan(0, 6, NONE, 0), 1);
        due("nothing ahead of all", x.plan(0, 6, 0, 0), 0);
        due("as late as can be", x.plan(0, 6, 5, 0), 1);
        due("by the WAY", x.plan(0, 6, 5, 1), 2);
        x.seen(3, 57);
        due("the first WAY of like ones", x.plan(0, 6, 5, 1), 2);
        x.cost(3, 0, 0);
        due("the cheaper WAY", x.plan(0, 6, 5, 1), 3);
        x.thing(1, 1, 1, 0, 16, 0, 60);
        due("another MATTER, the lower SET ahead", x.plan(0, 6, 4, 0), 1);
        due("another MATTER", x.plan(0, 6, 5, 0), 2);
        due("one step, of like ones the lower SET", x.plan(0, 1, 0, 0), 1);
        x.thing(1, 1, 1, 0, 2, 0, 60);
        due("two of one MATTER put together", x.plan(0, 6, 5, 0), 6);
        due("18 * 57 / 100 less 6, and 9 less 6", x.plan(0, 6, NONE, 0), 4 + 3);
        x.dead(1);
        due("DEAD ones are not looked at", x.plan(0, 6, 5, 0), 1);
        x.say(0, 1, 0);
        due("TOLD ones are not", x.plan(0, 6, NONE, 0), 0);
        due("nor ones for others", x.plan(1, 6, NONE, 0), 0);
        mustOnes();
        sixThings();
        clocks();
    }

    private static void mustOnes() {
        WhenToSpeak x = fresh(24);
        x.seen(0, 100);
        x.go(3);
        x.thing(1, 0, 0, 0, 9, 1, 4);
        due("2000 more", x.plan(0, 1, NONE, 0), 2001);
        due("first while it is worth most", x.plan(0, 2, 0, 0), 1);
        x.thing(1, 3, 1, 0, 0, 0, 60);
        due("of another MATTER next", x.plan(0, 2, 1, 0), 2);
        due("both", x.plan(0, 2, NONE, 0), 2001 + 1992);
        x.go(2);
        due("LATE ones are not looked at", x.plan(0, 6, NONE, 0), 1992);
        x.seams(1);
        x.thing(1, 2, 2, 0, 100, 0, 60);
        due("a SEAM one by SEAM ODDS", x.plan(0, 6, NONE, 0), 1992 + 25 - 8);
        x.seen(0, 0);
        x.seen(1, 0);
        x.seen(2, 0);
        x.seen(3, 0);
        due("by no WAY seen", x.plan(0, 6, NONE, 0), 0);
    }

    private static void sixThings() {
        WhenToSpeak x = fresh(24);
        x.thing(2, 1, 0, 0, 999, 0, 60);
        x.thing(1, 1, 0, 0, 999, 0, 60);
        x.say(0, 2, 0);
        for (int t = 2; t < 8; t++) {
            x.thing(1, 1, 0, 0, 10, 0, 60);
        }
        x.thing(1, 0, 0, 0, 999, 0, 60);
        due("six are looked at, the first that wait and are for it", x.plan(0, 1, 0, 0), 252);
        due("30 less 8", x.plan(0, 1, NONE, 0), 22);
        x.dead(2);
        due("then the seventh", x.plan(0, 1, 0, 0), 256 + 248);
    }

    private static void clocks() {
        WhenToSpeak x = fresh(24);
        x.go(20);
        x.go(20);
        x.go(18);
        x.thing(1, 0, 0, 0, 0, 0, 60);
        due("steps beyond the last TICK", x.plan(0, 6, NONE, 0), 992);
        due("its last good TICK", x.plan(0, 6, 2, 0), 1);
        due("behind it", x.plan(0, 6, 3, 0), 0);
        x.thing(1, 1, 0, 0, 999, 0, 58);
        due("together in the first", x.plan(0, 6, 0, 0), 3);
        due("2999 / 2 less 8", x.plan(0, 6, NONE, 0), 1491);
    }

    private static void planUnderLaws() {
        WhenToSpeak x = fresh(24);
        x.seen(0, 100);
        x.thing(1, 1, 0, 0, 100, 1, 60);
        x.thing(1, 1, 1, 5, 90, 1, 60);
        x.thing(1, 1, 2, 0, 80, 1, 60);
        law(x, 0, "most 1 in 3;");
        due("one in three TICKS: 92 + 79", x.plan(0, 4, NONE, 0), 92 + 79);
        due("step 0", x.plan(0, 4, 0, 0), 1);
        due("step 3", x.plan(0, 4, 3, 0), 2);
        due("three steps", x.plan(0, 3, NONE, 0), 92);
        law(x, 0, "most 1 in 3;always from 5;");
        due("one of always counts and is not barred", x.plan(0, 4, 0, 0), 1);
        due("one of always is said next", x.plan(0, 4, 1, 0), 2);
        due("and bars the third", x.plan(0, 4, NONE, 0), 92 + 81);
        due("two steps", x.plan(0, 2, NONE, 0), 92 + 81);
        due("two steps", x.plan(0, 2, 1, 0), 2);
        law(x, 0, "never kind 1 after 0;always from 5;");
        due("a KIND from TICK 1 on", x.plan(0, 3, 0, 0), 1);
        due("not one of always", x.plan(0, 3, 1, 0), 2);
        due("but another", x.plan(0, 3, 2, 0), 0);
        law(x, 0, "never way 0;");
        due("another WAY", x.plan(0, 1, 0, 1), 1);
        law(x, 0, "never way 0;never way 1;never way 2;never way 3;always from 5;");
        due("what is of always alone", x.plan(0, 6, NONE, 0), 82);
        saidBefore();
        oddsAhead();
    }

    private static void saidBefore() {
        WhenToSpeak x = fresh(24);
        x.thing(1, 1, 0, 0, 100, 0, 60);
        x.thing(1, 1, 1, 0, 100, 0, 60);
        law(x, 0, "most 1 in 3;");
        x.say(0, 1, 0);
        due("said now: two TICKS are barred", x.plan(0, 2, NONE, 0), 0);
        due("a third too", x.plan(0, 3, NONE, 0), 0);
        due("then no more", x.plan(0, 4, NONE, 0), 42);
        due("in step 3", x.plan(0, 4, 3, 0), 2);
        x.go(1);
        due("a TICK on", x.plan(0, 3, 2, 0), 2);
        due("what is asked changes nothing", x.count(6), 1);
    }

    private static void oddsAhead() {
        WhenToSpeak x = fresh(24);
        onlyState(x, 0);
        x.move(0, 0, 0);
        x.move(0, 1, 1);
        x.cost(0, 0, 60);
        x.seams(2);
        x.thing(1, 2, 0, 0, 100, 0, 60);
        due("nothing in a TICK without SEAM", x.plan(0, 1, NONE, 0), 0);
        due("in the next, for 10", x.plan(0, 2, NONE, 0), 40);
        law(x, 0, "never way 0 state 1 100;never way 1 state 1 99;never way 2 state 0 1;");
        due("laws by ODDS ahead", x.plan(0, 2, 1, 1), 2);
    }

    private static void say() {
        WhenToSpeak x = fresh(25);
        due("no THINGS", x.say(0, 1, 0), UNKNOWN);
        x.thing(3, 1, 0, 0, 1, 0, 2);
        x.thing(1, 1, 0, 0, 1, 0, 2);
        x.thing(3, 1, 1, 0, 1, 0, 2);
        due("say(4, 1, 0)", x.say(4, 1, 0), UNKNOWN);
        due("say(-1, 1, 9)", x.say(-1, 1, 9), UNKNOWN);
        due("say(0, 0, 0)", x.say(0, 0, 0), UNKNOWN);
        due("say(0, 8, 9)", x.say(0, 8, 9), UNKNOWN);
        due("say(0, least, 0)", x.say(0, LEAST + 1, 0), UNKNOWN);
        due("say(0, 1, 4)", x.say(0, 1, 4), OUTSIDE);
        due("say(0, 5, -1)", x.say(0, 5, -1), OUTSIDE);
        due("unlike MATTERS", x.say(0, 5, 0), NOT);
        due("one is not for it", x.say(1, 3, 0), NOT);
        due("none was made", x.count(6), 0);
        due("two of one MATTER", x.say(0, 3, 0), 0);
        x.go(3);
        due("LATE or TOLD ones are said too", x.say(1, 4, 3), 1);
        law(x, 0, "never way 2;");
        due("not LET", x.say(0, 1, 2), NOT);
        due("LET", x.say(0, 1, 1), 2);
        x.dead(2);
        due("a DEAD one", x.say(1, 4, 0), NOT);
        for (int s = 3; s < 40; s++) {
            due("one more", x.say(0, 1, 0), s);
        }
        due("a forty-first", x.say(0, 1, 0), FULL);
        due("NOT ahead of FULL", x.say(1, 4, 0), NOT);
        due("NOT ahead of FULL", x.say(0, 1, 2), NOT);
        due("OUTSIDE ahead of FULL", x.say(0, 1, 4), OUTSIDE);
        due("forty", x.count(6), 40);
    }

    private static void came() {
        WhenToSpeak x = fresh(26);
        due("came(0, 1)", x.came(0, 1), UNKNOWN);
        x.thing(1, 1, 0, 0, 1, 0, 60);
        x.say(0, 1, 0);
        x.say(0, 1, 0);
        due("came(2, 1)", x.came(2, 1), UNKNOWN);
        due("came(-1, 9)", x.came(-1, 9), UNKNOWN);
        due("came(0, 0)", x.came(0, 0), OUTSIDE);
        due("came(0, 4)", x.came(0, 4), OUTSIDE);
        due("nothing till then", x.came(0, 2), 0);
        due("told already", x.came(0, 2), NOT);
        due("outside first", x.came(0, 4), OUTSIDE);
        due("it stays", x.saying(0, 4), 2);
        due("the other", x.came(1, 3), 0);
    }

    private static void saying() {
        WhenToSpeak x = fresh(27);
        x.thing(4, 1, 0, 0, 1, 0, 60);
        x.thing(4, 1, 0, 0, 1, 0, 60);
        x.thing(4, 1, 0, 0, 1, 0, 60);
        x.go(7);
        x.say(2, 6, 3);
        x.came(0, 3);
        x.go(1);
        x.dead(0);
        int[] want = {2, 6, 3, 7, 3, 0};
        for (int what = 0; what < 6; what++) {
            due("saying(0, " + what + ")", x.saying(0, what), want[what]);
        }
        x.dead(2);
        due("one is to be taken back", x.saying(0, 5), 4);
        x.dead(1);
        due("both are", x.saying(0, 5), 6);
        due("the SET is as it was", x.saying(0, 1), 6);
        due("saying(0, 6)", x.saying(0, 6), OUTSIDE);
        due("saying(0, -1)", x.saying(0, -1), OUTSIDE);
        due("saying(1, 0)", x.saying(1, 0), UNKNOWN);
        due("saying(-1, 9)", x.saying(-1, 9), UNKNOWN);
        WhenToSpeak y = fresh(27);
        y.thing(1, 1, 0, 0, 1, 0, 60);
        y.say(0, 1, 0);
        due("nothing to be taken back", y.saying(0, 5), 0);
        y.dead(0);
        due("THING 0 is to be taken back", y.saying(0, 5), 1);
    }

    private static void tellOutcomes(WhenToSpeak x, int way, int lookedAt, int putBy) {
        for (int i = 0; i < lookedAt + putBy; i++) {
            x.came(x.say(0, 1, way), i < lookedAt ? 1 : 2 + i % 2);
        }
    }

    private static void learnt() {
        WhenToSpeak x = fresh(28);
        x.thing(1, 1, 0, 0, 1, 0, 60);
        due("none at all: 1", x.learnt(0, 1, 4), 1);
        due("none at all: of 1", x.learnt(0, 1, 5), 1);
        tellOutcomes(x, 0, 3, 1);
        tellOutcomes(x, 1, 1, 3);
        tellOutcomes(x, 3, 4, 0);
        x.say(0, 1, 0);
        x.say(0, 1, 1);
        int[] want = {3, 4, 1, 4, 17, 70};
        for (int what = 0; what < 6; what++) {
            due("learnt(0, 1, " + what + ")", x.learnt(0, 1, what), want[what]);
        }
        due("the other way round: 69 of 70", x.learnt(1, 0, 4), 69);
        due("none by way 2", x.learnt(0, 2, 1), 4);
        due("none by way 2", x.learnt(0, 2, 3), 0);
        due("none by way 2", x.learnt(0, 2, 5), 1);
        due("4 of 4 and 1 of 4: 1 of 14", x.learnt(3, 1, 4), 1);
        due("4 of 4 and 1 of 4: 1 of 14", x.learnt(3, 1, 5), 14);
        due("learnt(0, 0, 0)", x.learnt(0, 0, 0), OUTSIDE);
        due("learnt(4, 0, 0)", x.learnt(4, 0, 0), OUTSIDE);
        due("learnt(-1, 0, 0)", x.learnt(-1, 0, 0), OUTSIDE);
        due("learnt(0, 4, 0)", x.learnt(0, 4, 0), OUTSIDE);
        due("learnt(0, -1, 0)", x.learnt(0, -1, 0), OUTSIDE);
        due("learnt(0, 1, 6)", x.learnt(0, 1, 6), OUTSIDE);
        due("learnt(0, 1, -1)", x.learnt(0, 1, -1), OUTSIDE);
        thirty();
    }

    private static void thirty() {
        WhenToSpeak x = fresh(28);
        x.thing(1, 1, 0, 0, 1, 0, 60);
        tellOutcomes(x, 0, 15, 0);
        tellOutcomes(x, 2, 0, 15);
        due("1 of all", x.learnt(0, 2, 4), 1);
        due("30 over 15", x.learnt(0, 2, 5), 155117520);
        due("all of all", x.learnt(2, 0, 4), 1);
        due("all of all", x.learnt(2, 0, 5), 1);
        x.say(0, 1, 0);
        due("30 that are told of", x.learnt(0, 2, 4), 1);
        x.came(30, 2);
        due("31: NOT", x.learnt(0, 2, 4), NOT);
        due("31: NOT", x.learnt(0, 2, 5), NOT);
        due("31: but x", x.learnt(0, 2, 0), 15);
        due("31: but m", x.learnt(0, 2, 1), 16);
        due("OUTSIDE ahead of NOT", x.learnt(0, 2, 6), OUTSIDE);
        due("other WAYS", x.learnt(0, 1, 4), 1);
    }

    private static void who() {
        WhenToSpeak x = fresh(29);
        due("who(0, 0)", x.who(0, 0), UNKNOWN);
        x.thing(14, 1, 0, 0, 1, 0, 60);
        x.seams(1);
        x.shows(0, 0, 4);
        x.shows(0, 1, 2);
        x.sign(0, 0);
        x.sign(2, 1);
        x.sign(3, 0);
        due("the greatest of those who can", x.who(0, 0), 3);
        due("NEXT is as FIRST", x.who(0, 1), 3);
        x.say(3, 1, 0);
        due("FIRST stays", x.who(0, 0), 3);
        due("NEXT behind it", x.who(0, 1), 2);
        x.came(0, 3);
        due("a wiped SAYING was had too", x.who(0, 1), 2);
        x.say(2, 1, 0);
        due("the last", x.who(0, 1), 1);
        x.say(1, 1, 0);
        due("none", x.who(0, 1), NONE);
        x.sign(2, 0);
        due("of like ones the least number", x.who(0, 0), 2);
        x.seams(0);
        due("no SEAM ODDS at all", x.who(0, 0), 1);
        due("who(0, 2)", x.who(0, 2), OUTSIDE);
        due("who(0, -1)", x.who(0, -1), OUTSIDE);
        due("who(1, 0)", x.who(1, 0), UNKNOWN);
        due("who(-1, 5)", x.who(-1, 5), UNKNOWN);
        x.dead(0);
        due("a DEAD one", x.who(0, 0), 1);
        x.thing(9, 1, 0, 0, 1, 0, 60);
        x.say(3, 2, 0);
        due("NEXT may be PERSON 0", x.who(1, 1), 0);
    }

    private static void tried() {
        WhenToSpeak x = fresh(30);
        x.seams(1);
        x.shows(0, 1, 4);
        for (int i = 1; i < 4; i++) {
            x.shows(i, 1, 0);
        }
        x.cost(1, 0, 100);
        x.thing(1, 0, 0, 0, 1, 0, 2);
        x.thing(1, 1, 1, 0, 1, 0, 3);
        x.thing(2, 1, 1, 0, 1, 0, 3);
        x.go(1);
        x.thing(1, 3, 2, 0, 1, 0, 60);
        x.thing(1, 2, 3, 0, 1, 0, 9);
        x.dead(4);
        due("nothing is gone but TICK 0", x.tried(0, 0, 0, 3), 2);
        x.go(3);
        x.sign(0, 1);
        due("TICK 4 is NOW: not gone", x.tried(0, 1000000, 1, 3), 1);
        due("1 is LATE: its CLOCK is gone", x.tried(0, 1000000, 1, 0), 1);
        x.go(1);
        due("said: 0 at its CLOCK, all others at 4", x.tried(0, 1000000, 1, 3), 4);
        due("LATE: 1", x.tried(0, 1000000, 1, 0), 1);
        due("WAITED: 2 and 4 and 3 and 3", x.tried(0, 1000000, 1, 1), 12);
        due("PAID: 25 2 2 2 and 100", x.tried(0, 1000000, 1, 2), 131);
        due("any time: none is LATE", x.tried(0, 0, 1, 0), 0);
        due("any time: none WAITED", x.tried(0, 0, 1, 1), 0);
        due("any time: two TICKS are PAID", x.tried(0, 0, 1, 2), 62);
        due("by a quarter", x.tried(0, 250000, 1, 1), 0);
        due("by more than a quarter", x.tried(0, 250001, 1, 1), 12);
        due("another PERSON", x.tried(1, 250001, 1, 3), 0);
        due("another PERSON is LATE", x.tried(1, 250001, 1, 0), 1);
        due("PERSON 0 by a SEAM at 4", x.tried(0, 900000, 1, 0), 1);
        due("no THINGS", x.tried(3, 0, 0, 3), 0);
        due("tried(4, 0, 0, 0)", x.tried(4, 0, 0, 0), UNKNOWN);
        due("tried(-1, -1, 9, 9)", x.tried(-1, -1, 9, 9), UNKNOWN);
        due("tried(0, -1, 0, 0)", x.tried(0, -1, 0, 0), OUTSIDE);
        due("tried(0, 1000001, 0, 0)", x.tried(0, 1000001, 0, 0), OUTSIDE);
        due("tried(0, 0, 4, 0)", x.tried(0, 0, 4, 0), OUTSIDE);
        due("tried(0, 0, -1, 0)", x.tried(0, 0, -1, 0), OUTSIDE);
        due("tried(0, 0, 0, 4)", x.tried(0, 0, 0, 4), OUTSIDE);
        due("tried(0, 0, 0, -1)", x.tried(0, 0, 0, -1), OUTSIDE);
        due("no SAYING is made", x.count(6), 0);
        clocksTried();
    }

    private static void clocksTried() {
        WhenToSpeak x = fresh(30);
        due("NOW is 0", x.tried(0, 0, 0, 3), 0);
        x.thing(1, 0, 0, 0, 1, 0, 2);
        x.thing(1, 1, 0, 0, 1, 0, 2);
        x.say(0, 3, 0);
        x.go(2);
        due("the CLOCK is NOW: not said", x.tried(0, 1, 0, 3), 0);
        due("nor LATE", x.tried(0, 1, 0, 0), 0);
        x.go(1);
        due("a MUST one is said at its CLOCK", x.tried(0, 1, 0, 3), 1);
        due("the other is LATE, though it was said in truth", x.tried(0, 1, 0, 0), 1);
        due("what is said alone WAITED", x.tried(0, 1, 0, 1), 2);
        WhenToSpeak y = fresh(30);
        y.thing(1, 1, 0, 0, 1, 0, 2);
        y.go(3);
        due("THING 0 is LATE, never said", y.tried(0, 1, 0, 0), 1);
        due("none is said", y.tried(0, 1, 0, 3), 0);
    }

    /** With ten THINGS and forty SAYINGS every call still answers. */
    private static void allFull() {
        WhenToSpeak x = fresh(1);
        for (int t = 0; t < 10; t++) {
            x.thing(15, t % 4, 0, t, 10, 1, 60);
        }
        due("all ten at once", x.say(3, 1023, 3), 0);
        due("an eleventh bit", x.say(3, 1024, 3), UNKNOWN);
        for (int s = 1; s < 40; s++) {
            x.came(x.say(s % 4, 512, s % 4), 1);
        }
        due("the last THING is in all", x.told(9, 6), 40);
        due("it is TOLD", x.told(9, 5), 1);
        due("a TWO one seen by none", x.told(3, 5), 0);
        due("TOLD: all but two TWO ones", x.count(3), 8);
        due("all had it", x.who(9, 1), NONE);
        due("looked at by way 3", x.learnt(3, 0, 0), 10);
        due("of all told of, the first not with them", x.learnt(3, 0, 1), 10);
        due("barred", x.barred(0, 1023, 0), 0);
        due("dead", x.dead(9), 40);
        due("taken back", x.saying(39, 5), 512);
        due("a saying that is not", x.saying(40, 5), UNKNOWN);
        due("both TWO ones at once: 4020 / 2 less 8", x.plan(0, 6, NONE, 0), 2002);
        x.go(1);
        due("all are said at once", x.tried(0, 0, 0, 3), 10);
    }

    private static void fullText() {
        WhenToSpeak x = fresh(21);
        String blanks = " ".repeat(160);
        due("160 blanks", law(x, 0, blanks), 0);
        due("a clause at the very end", law(x, 0, (blanks + "never way 1;").substring(12)), 1);
        due("a word at the very end", law(x, 0, (blanks + "never").substring(5)), -11);
        due("the end is 160", x.fault(), 160);
        due("a NUMBER at the very end", law(x, 0, (blanks + "never way 1").substring(11)), -11);
        due("the end is 160", x.fault(), 160);
        due("figures alone", law(x, 0, "most" + "1".repeat(156)), -12);
        due("at the first", x.fault(), 4);
        x.thing(1, 0, 0, 0, 0, 0, 60);
        due("eight clauses without most", law(x, 0, "never way 0;".repeat(8)), 8);
        due("a plan under them", x.plan(0, 6, 5, 1), 1);
    }
}
