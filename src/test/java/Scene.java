/** Objects made ready for a test, and small runs of calls that many tests need. */
final class Scene {
    static final int BUSY_THINGS = 6;
    static final int BUSY_SAYINGS = 5;
    static final int BUSY_NOW = 12;

    private Scene() {
    }

    static void feed(WhenToSpeak x, String text) {
        int at = 0;
        while (at < text.length()) {
            int n = Math.min(8, text.length() - at);
            long bytes = 0;
            for (int i = 0; i < n; i++) {
                bytes = bytes << 8 | text.charAt(at + i);
            }
            x.feed(n, bytes);
            at += n;
        }
    }

    static int law(WhenToSpeak x, int p, String text) {
        feed(x, text);
        return x.read(p);
    }

    /** NOW becomes a TICK. */
    static void goTo(WhenToSpeak x, int tick) {
        while (x.count(0) < tick) {
            x.go(Math.min(20, tick - x.count(0)));
        }
    }

    /** All ODDS are on one STATE, and stay there. */
    static void onlyState(WhenToSpeak x, int state) {
        for (int i = 0; i < 4; i++) {
            x.begins(i, i == state ? 1 : 0);
            for (int j = 0; j < 4; j++) {
                x.move(i, j, i == j ? 1 : 0);
            }
        }
    }

    /** GO from one STATE. */
    static void goes(WhenToSpeak x, int i, int to0, int to1, int to2, int to3) {
        x.move(i, 0, to0);
        x.move(i, 1, to1);
        x.move(i, 2, to2);
        x.move(i, 3, to3);
    }

    static void begin(WhenToSpeak x, int in0, int in1, int in2, int in3) {
        x.begins(0, in0);
        x.begins(1, in1);
        x.begins(2, in2);
        x.begins(3, in3);
    }

    /** All WAYS are seen by the same odds, and cost the same in every STATE. */
    static void allWays(WhenToSpeak x, int seen, int cost) {
        for (int way = 0; way < 4; way++) {
            x.seen(way, seen);
            for (int i = 0; i < 4; i++) {
                x.cost(way, i, cost);
            }
        }
    }

    /** SAYINGS of THING 0 to PERSON 0, so many of them looked at, the others put by. */
    static void tellOutcomes(WhenToSpeak x, int way, int lookedAt, int putBy) {
        for (int i = 0; i < lookedAt + putBy; i++) {
            x.came(x.say(0, 1, way), i < lookedAt ? 1 : 2);
        }
    }

    /** A bit of everything: THINGS in every standing, SAYINGS with every outcome, LAWS, a text begun. */
    static WhenToSpeak busy() {
        WhenToSpeak x = new WhenToSpeak();
        x.move(0, 1, 3);
        x.move(2, 2, 0);
        x.shows(1, 2, 4);
        x.shows(3, 0, 0);
        x.begins(2, 2);
        x.seams(5);
        x.cost(1, 2, 40);
        x.cost(0, 3, 7);
        x.seen(0, 80);
        x.seen(3, 20);
        x.thing(15, 3, 0, 1, 50, 5, 40);
        x.thing(1, 1, 0, 2, 90, 10, 30);
        x.thing(3, 0, 1, 3, 30, 0, 9);
        x.sign(0, 2);
        x.sign(1, 0);
        x.go(6);
        x.thing(3, 2, 1, 4, 200, 1, 60);
        x.thing(5, 0, 2, 5, 70, 2, 25);
        x.thing(7, 1, 2, 6, 60, 3, 20);
        x.say(0, 1, 0);
        x.say(1, 1, 1);
        x.say(0, 2, 1);
        x.say(0, 16, 2);
        x.came(0, 1);
        x.came(1, 2);
        x.came(2, 3);
        x.go(6);
        x.sign(0, 1);
        x.sign(2, 3);
        x.say(1, 8, 2);
        x.dead(4);
        law(x, 0, "most 4 in 9;never way 3;always from 6;");
        law(x, 2, "never kind 1 after 3;never way 1 state 2 30;");
        law(x, 1, "most 1 out");
        feed(x, "never way 2;  ");
        return x;
    }

    /** NOW is 60, and there is no room for a THING, a SAYING, or a byte more. */
    static WhenToSpeak full() {
        WhenToSpeak x = new WhenToSpeak();
        for (int t = 0; t < 9; t++) {
            x.thing(15, t % 4, t % 2, t, 100 * t, t, 60);
        }
        law(x, 3, "never way 0;");
        goTo(x, 60);
        x.thing(7, 1, 1, 9, 999, 99, 60);
        for (int s = 0; s < 40; s++) {
            x.say(s % 3, s % 2 == 0 ? 5 : 2, s % 4);
            if (s < 36) {
                x.came(s, 1 + s % 3);
            }
        }
        x.dead(8);
        feed(x, "most 2 in 3;" + " ".repeat(148));
        return x;
    }
}
