import java.io.IOException;

/** Part 1 of the document, and promises 1 to 11: where TICKS, ROWS, ODDS and SEAMS begin and end. */
public final class WorkEdgeTest {
    private static final int NONE = -1, UNKNOWN = -1001, OUTSIDE = -1002, NOT = -1003;
    private static final int MILLION = 1000000;

    private static Sheet sheet;

    public static void main(String[] args) throws IOException {
        sheet = new Sheet();
        aNewObject();
        fiveHundredAndTwelve();
        persons();
        ticks();
        statesAndSigns();
        settings();
        signs();
        sevenTicks();
        weights();
        odds();
        noRow();
        ahead();
        seams();
        until();
        sheet.end();
    }

    private static void due(String call, int got, int want) {
        sheet.due(call, got, want);
    }

    private static void aNewObject() {
        sheet.says("No THINGS, no LAWS; TICK 0.");
        WhenToSpeak x = new WhenToSpeak();
        for (int what = 0; what < 8; what++) {
            due("count(" + what + ")", x.count(what), 0);
        }
        due("THING 0", x.told(0, 0), UNKNOWN);
        due("SAYING 0", x.saying(0, 0), UNKNOWN);
        due("TICK 1 is to come", x.fits(0, 1), OUTSIDE);
        x.thing(15, 0, 0, 0, 0, 0, 60);
        for (int p = 0; p < 4; p++) {
            for (int way = 0; way < 4; way++) {
                due("no LAWS", x.barred(p, 1, way), 0);
            }
        }
        WhenToSpeak y = new WhenToSpeak();
        due("another new one has no THING", y.told(0, 0), UNKNOWN);
        sheet.says("NONE is -1.");
        due("NONE", WhenToSpeak.NONE, -1);
        due("a WAY of nothing", y.plan(0, 1, 0, 1), -1);
    }

    private static void fiveHundredAndTwelve() {
        sheet.says("An object is used for at most 512 calls after it has been made");
        WhenToSpeak x = new WhenToSpeak();
        int calls = 0;
        for (int t = 0; t < 10; t++, calls++) {
            x.thing(15, 3, 0, t, 999, 9, 60);
        }
        for (int s = 0; s < 40; s++, calls += 2) {
            x.say(s % 4, 1023, s % 4);
            x.came(s, 2);
        }
        for (; calls < 510; calls++) {
            due("a PLAN again and again: 6 THINGS, 17994 / 2 less 8", x.plan(calls % 4, 6, NONE, 0), 8989);
        }
        due("call 511", x.plan(3, 6, 0, 0), 63);
        due("call 512", x.count(6), 40);
    }

    private static void persons() {
        sheet.says("PERSONS 0 to 3;");
        for (int p = 0; p < 4; p++) {
            WhenToSpeak x = new WhenToSpeak();
            x.shows(0, 0, 0);
            due("its SIGN", x.sign(p, 0), 1);
            for (int q = 0; q < 4; q++) {
                due("its own SIGN alone", x.fits(q, 0), q == p ? 3 : 4);
            }
        }
    }

    private static void ticks() {
        sheet.says("TICKS are 0 to 60; NOW is one (0 at first).");
        WhenToSpeak x = new WhenToSpeak();
        due("0 at first", x.count(0), 0);
        due("go(20)", x.go(20), 20);
        due("go(20)", x.go(20), 40);
        due("go(20)", x.go(20), 60);
        due("go(1)", x.go(1), NOT);
        x.shows(0, 0, 0);
        due("a SIGN in TICK 60", x.sign(3, 0), 1);
        due("it is seen", x.fits(3, 60), 3 * 4096);
        due("TICK 59 is another", x.fits(3, 59), 16384);
        due("a THING in TICK 60", x.thing(1, 0, 0, 0, 5, 0, 60), 0);
        due("its TICK", x.told(0, 7), 60);
        due("a SAYING in TICK 60", x.say(0, 1, 0), 0);
        due("its TICK", x.saying(0, 3), 60);
        sheet.says("NOW goes on by n TICKS (0 .. 20): NOW.");
        WhenToSpeak y = new WhenToSpeak();
        due("go(0)", y.go(0), 0);
        due("go(1)", y.go(1), 1);
        due("go(20)", y.go(20), 21);
        due("count", y.count(0), 21);
        sheet.says("NOT: it would be above 60.");
        due("go(20)", y.go(20), 41);
        due("61", y.go(20), NOT);
        due("60", y.go(19), 60);
        due("60 and 0", y.go(0), 60);
        sheet.says("FITS at a TICK (0 .. NOW).");
        due("at 0", y.fits(0, 0), 4);
        due("at NOW", y.fits(0, 60), 16384);
        due("behind it", y.fits(0, 61), OUTSIDE);
    }

    private static void statesAndSigns() {
        sheet.says("WORK has STATES 0 to 3, SIGNS 0 to 3:");
        for (int i = 0; i < 4; i++) {
            for (int s = 0; s < 4; s++) {
                WhenToSpeak x = new WhenToSpeak();
                x.shows(i, s, 0);
                for (int told = 0; told < 4; told++) {
                    x.sign(0, told);
                    due("STATE " + i + " does not show " + s, x.odds(0, i, 0), told == s ? 0 : 250000);
                    due("all others do", x.fits(0, 0), told == s ? 3 : 4);
                }
            }
        }
        sheet.says("All numbers are whole; / cuts towards 0;");
        WhenToSpeak y = new WhenToSpeak();
        Scene.begin(y, 1, 1, 1, 4);
        due("1 of 7 is 142857 and a bit", y.odds(0, 0, 0), 142857);
        due("4 of 7 is 571428 and more than a half", y.odds(0, 3, 0), 571428);
        y.cost(0, 3, 1);
        due("more than a half of 1, and 1 and a bit three times", y.loss(0, 0, 0), 3);
    }

    private static void settings() {
        sheet.says("GO (i, j), how often j comes behind i (0 .. 4; 1 at first);");
        WhenToSpeak x = new WhenToSpeak();
        for (int i = 0; i < 4; i++) {
            for (int j = 0; j < 4; j++) {
                due("GO at first", x.move(i, j, 4), 1);
                due("GO of 4", x.move(i, j, 0), 4);
                due("GO of 0", x.move(i, j, 1), 0);
            }
        }
        x.move(0, 1, 0);
        due("1 never behind 0", x.odds(0, 1, 1), 3 * 62500);
        due("0 still behind 1", x.odds(0, 0, 1), 83333 + 3 * 62500);
        sheet.says("SHOWS (i, s), how often i shows s (0 .. 4; 1 at first);");
        for (int i = 0; i < 4; i++) {
            for (int s = 0; s < 4; s++) {
                due("SHOWS at first", x.shows(i, s, 4), 1);
                due("SHOWS of 4", x.shows(i, s, 0), 4);
                due("SHOWS of 0", x.shows(i, s, 1), 0);
            }
        }
        x.shows(0, 1, 0);
        x.sign(0, 1);
        due("0 never shows 1", x.odds(0, 0, 0), 0);
        due("1 shows 1", x.odds(0, 1, 0), 333333);
        x.sign(1, 0);
        due("1 shows 0", x.odds(1, 1, 0), 250000);
        sheet.says("BEGINS (i) (0 .. 4; 1 at first).");
        for (int i = 0; i < 4; i++) {
            due("BEGINS at first", x.begins(i, 4), 1);
            due("BEGINS of 4", x.begins(i, 0), 4);
            due("BEGINS of 0", x.begins(i, i), 0);
        }
        due("0 of 6", x.odds(3, 0, 0), 0);
        due("1 of 6", x.odds(3, 1, 0), 166666);
        due("3 of 6", x.odds(3, 3, 0), 500000);
        sheet.says("SEAMS are a SET of STATES (none at first).");
        due("SEAMS at first", x.seams(8), 0);
        due("bit 3 is STATE 3", x.seam(3, 0), 500000);
        due("seams(1)", x.seams(1), 8);
        due("bit 0 is STATE 0", x.seam(3, 0), 0);
    }

    private static void signs() {
        sheet.says("In each TICK a PERSON shows a SIGN, or nothing is seen (BLANK).");
        WhenToSpeak x = new WhenToSpeak();
        for (int i = 0; i < 4; i++) {
            for (int s = 0; s < 4; s++) {
                x.shows(i, s, s == i ? 1 : 0);
            }
        }
        due("nothing was told: BLANK", x.fits(0, 0), 4);
        for (int s = 0; s < 4; s++) {
            x.sign(0, s);
            due("SIGN " + s, x.odds(0, s, 0), MILLION);
        }
        sheet.says("(NONE: BLANK; the last one told holds)");
        due("sign(0, NONE)", x.sign(0, NONE), 1);
        due("BLANK again", x.fits(0, 0), 4);
        x.sign(0, 2);
        x.sign(0, 1);
        due("the last one told", x.odds(0, 1, 0), MILLION);
        x.go(1);
        due("a new TICK is BLANK", x.fits(0, 1), 4);
        x.sign(0, 3);
        due("the SIGN of NOW", x.odds(0, 3, 0), MILLION);
        due("TICK 0 keeps its own", x.fits(0, 0), 1);
        x.sign(0, NONE);
        due("BLANK in NOW alone", x.fits(0, 1), 4);
    }

    private static void sevenTicks() {
        sheet.says("At a TICK t of a PERSON its last TICKS are looked at, up to seven (t - 6 .. t, not below 0).");
        WhenToSpeak x = new WhenToSpeak();
        x.go(20);
        int rows = 1;
        for (int t = 0; t <= 20; t++) {
            rows = t <= 6 ? rows * 4 : rows;
            due("ROWS at " + t, x.fits(0, t), rows);
        }
        for (int told : new int[] {0, 1, 53, 54}) {
            WhenToSpeak y = new WhenToSpeak();
            y.shows(0, 0, 0);
            Scene.goTo(y, told);
            y.sign(1, 0);
            Scene.goTo(y, Math.min(60, told + 7));
            due("a SIGN six TICKS ago", y.fits(1, told + 6), 12288);
            if (told < 54) {
                due("a SIGN seven TICKS ago", y.fits(1, told + 7), 16384);
                due("by ODDS", y.odds(1, 0, 0), 250000);
            }
        }
    }

    private static void weights() {
        sheet.says("BEGINS of the first,");
        WhenToSpeak x = new WhenToSpeak();
        Scene.onlyState(x, 2);
        x.go(9);
        due("STATE 2 from the first looked at", x.fits(0, 9), 1);
        x.begins(2, 0);
        due("no first", x.fits(0, 9), 0);
        sheet.says("times GO of each two side by side,");
        WhenToSpeak y = new WhenToSpeak();
        for (int i = 0; i < 4; i++) {
            Scene.goes(y, i, 0, 0, 0, 0);
        }
        due("one TICK needs no GO", y.fits(0, 0), 4);
        y.go(6);
        due("two do", y.fits(0, 1), 0);
        y.move(3, 3, 4);
        due("STATE 3 alone stays", y.fits(0, 6), 1);
        due("all ODDS are on it", y.odds(0, 3, 0), MILLION);
        y.move(3, 0, 1);
        due("4 to 1", y.odds(0, 0, 0), 200000);
        sheet.says("times SHOWS of each and its SIGN (BLANK: 1).");
        WhenToSpeak z = new WhenToSpeak();
        z.shows(0, 0, 4);
        z.shows(1, 0, 0);
        due("BLANK is 1 for all", z.odds(0, 0, 0), 250000);
        z.sign(0, 0);
        due("4 of 6", z.odds(0, 0, 0), 666666);
        due("0 of 6", z.odds(0, 1, 0), 0);
        sheet.says("FITS: ROWS of a WEIGHT above 0.");
        due("a WEIGHT of 4 is one ROW, of 0 none", z.fits(0, 0), 3);
        z.begins(0, 4);
        due("16 is one ROW too", z.fits(0, 0), 3);
        z.shows(0, 0, 0);
        due("4 times 0", z.fits(0, 0), 2);
    }

    private static void odds() {
        sheet.says("ODDS of STATE i: all WEIGHTS of ROWS that end with i times 1000000 / all WEIGHTS");
        WhenToSpeak x = new WhenToSpeak();
        Scene.begin(x, 1, 1, 1, 0);
        due("cut", x.odds(0, 0, 0), 333333);
        Scene.begin(x, 4, 4, 4, 4);
        for (int i = 0; i < 4; i++) {
            x.shows(i, 0, 4);
            Scene.goes(x, i, 4, 4, 4, 4);
        }
        for (int t = 0; t < 6; t++) {
            x.sign(0, 0);
            x.go(1);
        }
        x.sign(0, 0);
        // 4 to the 21st in all; times a million it is just within a long.
        due("the greatest WEIGHTS", x.odds(0, 3, 0), 250000);
        due("all its ROWS", x.fits(0, 6), 16384);
        for (int i = 0; i < 3; i++) {
            x.begins(i, 0);
            Scene.goes(x, i, 0, 0, 0, 0);
            x.move(3, i, 0);
        }
        due("one ROW of the greatest", x.odds(0, 3, 0), MILLION);
        x.begins(0, 1);
        x.move(0, 0, 1);
        x.shows(0, 0, 1);
        due("1 beside 4 to the 14th", x.odds(0, 3, 0), 999999);
        due("is cut to 0", x.odds(0, 0, 0), 0);
        due("though it FITS", x.fits(0, 6), 2);
    }

    private static void noRow() {
        sheet.says("(no ROW: all are 0)");
        WhenToSpeak x = new WhenToSpeak();
        Scene.begin(x, 0, 0, 0, 0);
        x.seams(15);
        x.thing(15, 2, 0, 0, 999, 0, 60);
        for (int i = 0; i < 4; i++) {
            due("ODDS", x.odds(0, i, 0), 0);
            due("ODDS ahead", x.odds(0, i, 8), 0);
        }
        due("FITS", x.fits(0, 0), 0);
        due("SEAM ODDS", x.seam(0, 0), 0);
        due("LOSS", x.loss(0, 0, 0), 0);
        due("VALUE of a SEAM one", x.value(0, 0, 0), 0);
        due("any ODDS are 0 or more", x.until(0, 0), 0);
        due("none are 1 or more", x.until(0, 1), NONE);
        due("a PLAN says nothing", x.plan(0, 6, NONE, 0), 0);
        due("FIRST is the least number", x.who(0, 0), 0);
        x.go(1);
        due("TRIED by 0 is said", x.tried(0, 0, 0, 3), 1);
        due("and not PAID for", x.tried(0, 0, 0, 2), 0);
        due("TRIED by 1 is not", x.tried(0, 1, 0, 3), 0);
    }

    private static void ahead() {
        sheet.says("(ODDS of i, ahead by k - 1, times GO (i, j) / all GO of i) (each cut; a STATE without GO goes nowhere).");
        WhenToSpeak x = new WhenToSpeak();
        Scene.begin(x, 1, 1, 1, 0);
        for (int i = 0; i < 4; i++) {
            Scene.goes(x, i, 3, 1, 0, 0);
        }
        // 333333 * 3 / 4 is 249999 and three quarters: three of them are cut by more than 2.
        due("each cut", x.odds(0, 0, 1), 3 * 249999);
        due("each cut", x.odds(0, 1, 1), 3 * 83333);
        due("by 2, from what was cut", x.odds(0, 0, 2), 749997 * 3 / 4 + 249999 * 3 / 4);
        Scene.goes(x, 1, 0, 0, 0, 0);
        due("STATE 1 goes nowhere", x.odds(0, 0, 1), 2 * 249999);
        due("nor to itself", x.odds(0, 1, 1), 2 * 83333);
        for (int i = 0; i < 4; i++) {
            Scene.goes(x, i, 0, 0, 0, 0);
        }
        due("no GO at all", x.odds(0, 0, 1), 0);
        due("no GO at all, by 8", x.odds(0, 0, 8), 0);
        sheet.says("By 0: ODDS.");
        due("by 0 without GO", x.odds(0, 0, 0), 333333);
        sheet.says("ODDS of STATE i of a PERSON now, ahead by k (0 .. 8).");
        WhenToSpeak y = new WhenToSpeak();
        Scene.onlyState(y, 0);
        Scene.goes(y, 0, 0, 1, 0, 0);
        Scene.goes(y, 1, 0, 0, 1, 0);
        Scene.goes(y, 2, 1, 0, 0, 0);
        for (int k = 0; k <= 8; k++) {
            for (int i = 0; i < 4; i++) {
                due("round and round", y.odds(0, i, k), i == k % 3 ? MILLION : 0);
            }
        }
        y.go(1);
        due("now is a TICK on", y.odds(0, 1, 0), MILLION);
        Scene.goTo(y, 60);
        due("at 60 ahead by 8", y.odds(0, (6 + 8) % 3, 8), MILLION);
    }

    private static void seams() {
        sheet.says("SEAM ODDS: ODDS of all SEAMS together.");
        WhenToSpeak x = new WhenToSpeak();
        Scene.begin(x, 0, 1, 2, 4);
        int[] odds = {0, 142857, 285714, 571428};
        for (int set = 0; set < 16; set++) {
            x.seams(set);
            int sum = 0;
            for (int i = 0; i < 4; i++) {
                sum += (set >> i & 1) * odds[i];
            }
            due("SEAMS " + set, x.seam(0, 0), sum);
        }
        sheet.says("SEAM ODDS now, ahead by k.");
        WhenToSpeak y = new WhenToSpeak();
        Scene.onlyState(y, 0);
        Scene.goes(y, 0, 0, 1, 0, 0);
        y.seams(2);
        due("by 0", y.seam(3, 0), 0);
        due("by 1", y.seam(3, 1), MILLION);
        due("by 8", y.seam(3, 8), MILLION);
        due("by 9", y.seam(3, 9), OUTSIDE);
    }

    private static void until() {
        sheet.says("UNTIL: the least k (0 .. 8) at which SEAM ODDS ahead by k are h or more.");
        WhenToSpeak x = new WhenToSpeak();
        x.seams(1);
        due("just h, by 0", x.until(0, 250000), 0);
        due("one short", x.until(0, 250001), NONE);
        due("h = 0", x.until(0, 0), 0);
        WhenToSpeak y = new WhenToSpeak();
        Scene.onlyState(y, 0);
        Scene.goes(y, 0, 0, 1, 0, 0);
        Scene.goes(y, 1, 1, 0, 0, 0);
        y.seams(2);
        due("the least of 1, 3, 5, 7", y.until(0, MILLION), 1);
        y.go(1);
        due("now", y.until(0, MILLION), 0);
        sheet.says("UNTIL for h (0 .. 1000000); NONE: not by 8.");
        WhenToSpeak z = new WhenToSpeak();
        Scene.onlyState(z, 0);
        Scene.goes(z, 0, 4, 1, 0, 0);
        z.seams(2);
        int left = MILLION;
        int over = 0;
        for (int k = 1; k <= 8; k++) {
            over += left / 5;
            left = left * 4 / 5;
            due("h reached by " + k, z.until(0, over), k);
            due("one more is not reached by " + k, z.until(0, over + 1), k == 8 ? NONE : k + 1);
        }
        z.seams(0);
        due("no SEAMS", z.until(0, 1), NONE);
        due("no SEAMS, h = 0", z.until(0, 0), 0);
        z.seams(3);
        due("all of them, h at its most", z.until(0, MILLION), 0);
    }
}
