import java.io.IOException;

/** The text of LAWS: its bounds, its blanks, its FAULTS and where they are. */
public final class LawTextTest {
    private static final int NONE = -1, UNKNOWN = -1001, FULL = -1004;
    private static final String GOOD = "never way 1 state 2 30;never kind 3 after 45;most 6 in 57;always from 8;";
    private static final String EIGHT = "most 1 in 1;".repeat(8);

    private static Sheet sheet;

    public static void main(String[] args) throws IOException {
        sheet = new Sheet();
        feeding();
        clauses();
        reading();
        numbers();
        bounds();
        wordsAndBlanks();
        blanksPutIn();
        blanksTakenOut();
        ends();
        everyByte();
        theFirstFault();
        theLeastFault();
        ninth();
        sheet.end();
    }

    private static void good(String text, int clauses) {
        WhenToSpeak x = new WhenToSpeak();
        sheet.due("read of <" + text + ">", Scene.law(x, 1, text), clauses);
        sheet.due("fault of <" + text + ">", x.fault(), NONE);
    }

    private static void faulty(String text, int kind, int at) {
        WhenToSpeak x = new WhenToSpeak();
        sheet.due("read of <" + text + ">", Scene.law(x, 1, text), -10 - kind);
        sheet.due("fault of <" + text + ">", x.fault(), at);
    }

    private static void feeding() {
        sheet.says("Up to eight bytes (n 1 .. 8) of a long, the highest of these first, come behind THE TEXT: how many it has.");
        for (int n = 1; n <= 8; n++) {
            WhenToSpeak x = new WhenToSpeak();
            // Of 'always f' the last n letters count; those above them do not.
            sheet.due("feed " + n, x.feed(n, 0x616c776179732066L), n);
            sheet.due("count", x.count(7), n);
            String rest = "always f".substring(8 - n) + "rom 3;";
            sheet.due("feed the rest", x.feed(6, 0x726f6d20333bL), n + 6);
            int want = n == 8 ? 1 : -11;
            sheet.due("read of <" + rest + ">", x.read(0), want);
        }
        WhenToSpeak y = new WhenToSpeak();
        y.feed(8, -1L);
        sheet.due("bytes of 255", y.read(0), -11);
        y.feed(8, 0x80616c7761797320L);
        sheet.due("a byte of 128", y.read(0), -11);
        sheet.due("is at 0", y.fault(), 0);
        y.feed(1, 0x3b20L);
        sheet.due("one blank of two bytes", y.read(0), 0);
        sheet.says("LAWS of a PERSON are a text (160 bytes at most)");
        WhenToSpeak z = new WhenToSpeak();
        Scene.feed(z, " ".repeat(148) + "never way 3;");
        sheet.due("160 bytes", z.count(7), 160);
        sheet.due("a byte more", z.feed(1, 0x20), FULL);
        sheet.due("all 160 are read", z.read(0), 1);
        sheet.due("there is room again", z.feed(8, 0), 8);
        z.read(0);
        for (int i = 1; i <= 160; i++) {
            sheet.due("one by one", z.feed(1, 0x20), i);
        }
        sheet.due("one more", z.feed(1, 0x20), FULL);
    }

    private static void clauses() {
        sheet.says("clause = 'never' 'way' W ['state' S N] ';' 'never' 'kind' K 'after' N ';' 'most' N 'in' N ';' 'always' 'from' N ';'.");
        good("never way 1;", 1);
        good("never way 1 state 2 3;", 1);
        good("never kind 1 after 2;", 1);
        good("most 1 in 2;", 1);
        good("always from 1;", 1);
        good(GOOD, 4);
        // Each part left out, in turn.
        faulty("way 1 state 2 3;", 1, 0);
        faulty("never 1 state 2 3;", 1, 6);
        faulty("never way state 2 3;", 1, 10);
        faulty("never way 1 2 3;", 1, 12);
        faulty("never way 1 state 2;", 1, 19);
        faulty("never way 1 state 2 3", 1, 21);
        faulty("kind 1 after 2;", 1, 0);
        faulty("never kind after 2;", 1, 11);
        faulty("never kind 1 2;", 1, 13);
        faulty("never kind 1 after;", 1, 18);
        faulty("never kind 1 after 2", 1, 20);
        faulty("1 in 2;", 1, 0);
        faulty("most in 2;", 1, 5);
        faulty("most 1 2;", 1, 7);
        faulty("most 1 in;", 1, 9);
        faulty("most 1 in 2", 1, 11);
        faulty("from 1;", 1, 0);
        faulty("always 1;", 1, 7);
        faulty("always from;", 1, 11);
        faulty("always from 1", 1, 13);
    }

    private static void reading() {
        sheet.says("THE TEXT (it is empty then) becomes LAWS of a PERSON: how many clauses;");
        good("", 0);
        good(" ", 0);
        good("most 1 in 1;", 1);
        good(EIGHT, 8);
        WhenToSpeak x = new WhenToSpeak();
        x.thing(15, 1, 0, 0, 1, 0, 60);
        Scene.law(x, 0, "never way 0;");
        sheet.due("empty then", x.count(7), 0);
        sheet.due("the WAY is barred", x.barred(0, 1, 0), 1);
        sheet.due("for that PERSON alone", x.barred(1, 1, 0), 0);
        sheet.due("an empty text", x.read(0), 0);
        sheet.due("takes LAWS away", x.barred(0, 1, 0), 0);
        sheet.says("-10 less the number of its FAULT (they are as they were).");
        Scene.law(x, 0, "never way 2;most 9 in 9;");
        sheet.due("FAULT 1", Scene.law(x, 0, "never way 1;never;"), -11);
        sheet.due("empty then too", x.count(7), 0);
        sheet.due("FAULT 2", Scene.law(x, 0, "never way 1;never way 4;"), -12);
        sheet.due("FAULT 3", Scene.law(x, 0, "never way 1;".repeat(9)), -13);
        sheet.due("never way 2 stays", x.barred(0, 1, 2), 1);
        sheet.due("never way 1 is not there", x.barred(0, 1, 1), 0);
        Scene.law(x, 1, "never way 4;");
        sheet.due("one that had none has none", x.barred(1, 1, 2), 0);
        sheet.says("UNKNOWN (THE TEXT stays).");
        Scene.feed(x, "never way 3;");
        sheet.due("read(4)", x.read(4), UNKNOWN);
        sheet.due("it stays", x.count(7), 12);
        sheet.due("and is read", x.read(3), 1);
        sheet.due("it holds", x.barred(3, 1, 3), 1);
        faultCall();
    }

    private static void faultCall() {
        sheet.says("The byte of the FAULT of the latest read() that was not UNKNOWN; NONE.");
        WhenToSpeak x = new WhenToSpeak();
        sheet.due("no read()", x.fault(), NONE);
        x.read(4);
        sheet.due("only one that was UNKNOWN", x.fault(), NONE);
        Scene.law(x, 0, "x");
        sheet.due("at 0", x.fault(), 0);
        sheet.due("asked again", x.fault(), 0);
        Scene.law(x, 1, "never way 9;");
        sheet.due("the latest", x.fault(), 10);
        x.read(-1);
        sheet.due("not one that was UNKNOWN", x.fault(), 10);
        x.feed(1, 'x');
        sheet.due("feed is not read", x.fault(), 10);
        x.read(2);
        sheet.due("the latest", x.fault(), 0);
        x.read(2);
        sheet.due("none in an empty text", x.fault(), NONE);
    }

    private static void numbers() {
        sheet.says("NUMBERS have one to three figures");
        good("most 1 in 1;", 1);
        good("most 01 in 01;", 1);
        good("most 001 in 001;", 1);
        good("never way 0 state 0 100;", 1);
        sheet.says("2 a NUMBER of four figures or more, or out of its bounds (at its first).");
        faulty("most 0001 in 1;", 2, 5);
        faulty("most 1 in 0001;", 2, 10);
        faulty("most 00000000001 in 1;", 2, 5);
        faulty("never way 0000;", 2, 10);
        faulty("never way 1234567890123456789012345;", 2, 10);
        // As an int these would wrap round to 1.
        faulty("never way 4294967297;", 2, 10);
        faulty("never way 18446744073709551617;", 2, 10);
    }

    /** Each NUMBER of each clause at its bounds, and behind them. */
    private static void bounds() {
        sheet.says("W, S, K 0 .. 3;");
        number("never way #;", 0, 3);
        number("never way # state 1 2;", 0, 3);
        number("never way 1 state # 2;", 0, 3);
        number("never kind # after 5;", 0, 3);
        sheet.says("of a state N 0 .. 100:");
        number("never way 1 state 2 #;", 0, 100);
        sheet.says("after N: in TICKS above N (0 .. 60);");
        number("never kind 1 after #;", 0, 60);
        sheet.says("most N (0 .. 9) SAYINGS in any N (1 .. 60) TICKS,");
        number("most # in 5;", 0, 9);
        number("most 5 in #;", 1, 60);
        sheet.says("from 0 .. 9.");
        number("always from #;", 0, 9);
    }

    private static void number(String clause, int least, int most) {
        int at = clause.indexOf('#');
        for (int n = 0; n <= 1000; n++) {
            if (n < 130 || n > 990) {
                String text = clause.replace("#", Integer.toString(n));
                if (n >= least && n <= most) {
                    good(text, 1);
                } else {
                    faulty(text, 2, at);
                }
            }
        }
    }

    private static void wordsAndBlanks() {
        sheet.says("words are letters a .. z side by side");
        faulty("Never way 1;", 1, 0);
        faulty("never wAy 1;", 1, 6);
        faulty("never way1x;", 1, 10);
        faulty("never way_ 1;", 1, 9);
        faulty("never way" + (char) 96 + "1;", 1, 9);
        faulty("never way" + (char) 123 + "1;", 1, 9);
        faulty("neverx way 1;", 1, 0);
        faulty("neve way 1;", 1, 0);
        faulty("zever way 1;", 1, 0);
        faulty("nevez way 1;", 1, 0);
        sheet.says("blanks (32) may stand anywhere but within words and NUMBERS");
        good("   never   way   1   state   2   30   ;   ", 1);
        good("never way1state2 30;never kind3after45;most6in57;always from8;", 4);
        for (int b : new int[] {0, 9, 10, 11, 12, 13, 31, 33, 160}) {
            faulty("never way" + (char) b + "1;", 1, 9);
            faulty((char) b + "never way 1;", 1, 0);
            faulty("never way 1;" + (char) b, 1, 12);
        }
    }

    /** A blank more at each place: wrong only within a word or a NUMBER. */
    private static void blanksPutIn() {
        sheet.says("blanks (32) may stand anywhere but within words and NUMBERS");
        for (int at = 0; at <= GOOD.length(); at++) {
            String text = GOOD.substring(0, at) + " " + GOOD.substring(at);
            char before = at == 0 ? ' ' : GOOD.charAt(at - 1);
            char behind = at == GOOD.length() ? ' ' : GOOD.charAt(at);
            if (isLetter(before) && isLetter(behind)) {
                faulty(text, 1, wordStart(GOOD, at - 1));
            } else if (isFigure(before) && isFigure(behind)) {
                faulty(text, 1, at + 1);
            } else {
                good(text, 4);
            }
        }
    }

    /** Each blank taken out: wrong only between two words or two NUMBERS. */
    private static void blanksTakenOut() {
        sheet.says("two words or two NUMBERS side by side need one.");
        for (int at = 0; at < GOOD.length(); at++) {
            if (GOOD.charAt(at) == ' ') {
                String text = GOOD.substring(0, at) + GOOD.substring(at + 1);
                boolean words = isLetter(GOOD.charAt(at - 1)) && isLetter(GOOD.charAt(at + 1));
                boolean numbers = isFigure(GOOD.charAt(at - 1)) && isFigure(GOOD.charAt(at + 1));
                if (words) {
                    faulty(text, 1, wordStart(GOOD, at - 1));
                } else if (numbers) {
                    faulty(text, 2, at - 1);
                } else {
                    good(text, 4);
                }
            }
        }
        faulty("never way 1 state 12;", 2, 18);
        faulty("never way 1 state 1;", 1, 19);
    }

    private static boolean isLetter(char c) {
        return c >= 'a' && c <= 'z';
    }

    private static boolean isFigure(char c) {
        return c >= '0' && c <= '9';
    }

    private static int wordStart(String text, int at) {
        int start = at;
        while (start > 0 && isLetter(text.charAt(start - 1))) {
            start--;
        }
        return start;
    }

    /** The text ends too soon at each place of each clause. */
    private static void ends() {
        sheet.says("at the first byte that has one (the end at the text's length)");
        for (int end = 1; end < GOOD.length(); end++) {
            String text = GOOD.substring(0, end);
            char last = text.charAt(end - 1);
            int start = wordStart(text, end - 1);
            boolean cutWord = isLetter(last) && isLetter(GOOD.charAt(end));
            if (last == ';') {
                good(text, text.split(";", -1).length - 1);
            } else {
                faulty(text, 1, cutWord ? start : end);
                faulty(text + "   ", 1, cutWord ? start : end + 3);
            }
        }
        faulty("never way 1;never", 1, 17);
        faulty(" ".repeat(155) + "never", 1, 160);
        faulty(" ".repeat(149) + "never way 1", 1, 160);
    }

    /** Each byte there is at the end of a NUMBER, at the start of a clause, and behind a word. */
    private static void everyByte() {
        sheet.says("1 it cannot stand there (a word that cannot: at its first letter).");
        for (int b = 0; b < 256; b++) {
            char c = (char) b;
            String behindNumber = "never way 1" + c;
            if (c == ';') {
                good(behindNumber, 1);
            } else if (c == ' ') {
                faulty(behindNumber, 1, 12);
            } else if (isFigure(c)) {
                faulty(behindNumber, 2, 10);
            } else {
                faulty(behindNumber, 1, 11);
            }
            if (c != ' ') {
                faulty("most 1 in 1;" + c, 1, 12);
            }
            if (!isLetter(c) && c != ' ') {
                faulty("never" + c, 1, 5);
            } else if (isLetter(c)) {
                faulty("never" + c, 1, 0);
            }
        }
        faulty("way 1;", 1, 0);
        faulty("never never way 1;", 1, 6);
        faulty("never most 1 in 1;", 1, 6);
        faulty("never way state 1;", 1, 10);
        faulty("never way 1 kind 2 after 3;", 1, 12);
        faulty("never way 1 after 3;", 1, 12);
        faulty("never kind 1 state 2 3;", 1, 13);
        faulty("never kind 1 after after 3;", 1, 19);
        faulty("never kind 1 after 2 3;", 1, 21);
        faulty("most in 3;", 1, 5);
        faulty("most 1 from 3;", 1, 7);
        faulty("always in 3;", 1, 7);
        faulty("always from from;", 1, 12);
        faulty("always from ;", 1, 12);
        faulty("always from 1 state 2 3;", 1, 14);
        faulty(";", 1, 0);
        faulty("never way 1;;", 1, 12);
        faulty("never way 1 state 2 3 4;", 1, 22);
    }

    private static void theFirstFault() {
        sheet.says("FAULTS, at the first byte that has one");
        faulty("never way 4 foo;", 2, 10);
        faulty("never foo 4;", 1, 6);
        faulty("never way 1;most 10 in 61;", 2, 17);
        faulty("never way 1;most 1 in 61;x", 2, 22);
        faulty("never way 1;most 1 on 61;", 1, 19);
        faulty("never way 1 state 4 101;", 2, 18);
        faulty("most 10 in 5" + ";never way 1".repeat(9), 2, 5);
        faulty("never way 4", 2, 10);
        faulty("never way 12345678", 2, 10);
    }

    private static void theLeastFault() {
        sheet.says("of these the least:");
        faulty("1234 way 1;", 1, 0);
        faulty("never 1234;", 1, 6);
        faulty("never way 1 1234;", 1, 12);
        faulty("most 1 1234 5;", 1, 7);
        faulty(EIGHT + "foo way 1;", 1, 96);
        faulty(EIGHT + "nevet way 1;", 1, 96);
        faulty(EIGHT + "host 1 in 1;", 1, 96);
        faulty(EIGHT + "alwayz from 1;", 1, 96);
        faulty(EIGHT + "mostly 1 in 1;", 1, 96);
        faulty(EIGHT + "1234;", 1, 96);
        faulty(EIGHT + ";", 1, 96);
    }

    private static void ninth() {
        sheet.says("3 a ninth clause (at its first letter).");
        String[] clauses = {"never way 1;", "never way 1 state 2 3;", "never kind 1 after 2;", "most 1 in 2;", "always from 3;"};
        for (String clause : clauses) {
            good(clause + "most 1 in 1;".repeat(7), 8);
            faulty(EIGHT + clause, 3, 96);
            faulty(EIGHT + "  " + clause, 3, 98);
        }
        good(EIGHT + "  ", 8);
        faulty(EIGHT + "most 10 in 1;", 3, 96);
        faulty(EIGHT + "most", 3, 96);
        faulty(EIGHT + "never foo", 3, 96);
        faulty(EIGHT + "most 1 in 1;" + "most 1 in 1;", 3, 96);
        faulty(EIGHT.substring(0, 84) + "most 1 in 0;most 1 in 1;", 2, 94);
    }
}
