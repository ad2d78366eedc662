import java.io.IOException;
import java.nio.file.DirectoryStream;
import java.nio.file.Files;
import java.nio.file.Path;
import java.util.ArrayList;
import java.util.Arrays;
import java.util.List;
import java.util.regex.Matcher;
import java.util.regex.Pattern;

/**
 * The document from its first line to its last: the face as it is written there, the
 * headings of its promises, the parts of its interface, what no other test quotes, and
 * that nothing of its terms and promises is left without a quote.
 */
public final class DocumentTest {
    private static final int NONE = -1;
    private static final String SOURCE = "src/main/java/WhenToSpeak.java";
    private static final String TESTS = "src/test/java";
    private static final String LITERAL = "\"((?:[^\"\\\\]|\\\\.)*)\"";

    private static Sheet sheet;
    private static String source;

    public static void main(String[] args) throws IOException {
        sheet = new Sheet();
        source = Files.readString(Path.of(SOURCE));
        face();
        headings();
        parts();
        rows();
        ahead();
        letNow();
        byAWay();
        everySentence();
        sheet.end();
    }

    private static void due(String call, int got, int want) {
        sheet.due(call, got, want);
    }

    private static List<String> found(String pattern, String text) {
        List<String> all = new ArrayList<>();
        Matcher m = Pattern.compile(pattern).matcher(text);
        while (m.find()) {
            all.add(m.group(1));
        }
        return all;
    }

    private static void face() {
        sheet.says("## The public face");
        String written = sheet.document.split("```java")[1].split("```")[0];
        List<String> methods = found("public (int \\w+\\([^)]*\\));", written);
        due("methods of the document", methods.size(), 29);
        due("in the same order, by the same names", methods.equals(found("public (int \\w+\\([^)]*\\)) \\{", source)) ? 1 : 0, 1);
        List<String> constants = found("(public static final int [^;]*;)", written);
        due("one line of constants", constants.size(), 1);
        sheet.expect(source.contains(constants.get(0)), "the constants are not written so");
        sheet.expect(source.contains("public final class WhenToSpeak {"), "the class is not written so");
        sheet.expect(source.contains("public WhenToSpeak() {"), "the constructor is not written so");
    }

    private static void headings() {
        sheet.says("## Promise 1: A new object `WhenToSpeak()`:");
        List<String> methods = found("public (int \\w+\\([^)]*\\)) \\{", source);
        due("promises", found("(## Promise \\d+:)", sheet.document).size(), 30);
        for (int i = 0; i < methods.size(); i++) {
            String name = methods.get(i).replaceAll("int (\\w+)\\(.*", "$1");
            String heading = "## Promise " + (i + 2) + ": " + name + " `" + methods.get(i) + "`:";
            sheet.expect(sheet.document.contains(heading), "the document has no " + heading);
        }
    }

    private static void parts() {
        sheet.says("Ahead of the calls `move`, `shows`, `begins`, `seams`, `sign`, `go`, `fits`, `odds`, `seam`, `until` "
            + "the interface says: ---- work, signs.");
        Matcher m = Pattern.compile("Ahead of the calls ([^.]*?) the interface says: (---- [a-z, ]+)\\.").matcher(sheet.document);
        int told = 0;
        while (m.find()) {
            told++;
            String[] behind = source.split("// " + m.group(2) + "\n");
            if (behind.length != 2) {
                sheet.expect(false, m.group(2) + " stands " + (behind.length - 1) + " times");
                continue;
            }
            List<String> calls = found("public int (\\w+)\\(", behind[1].split("// ----")[0]);
            List<String> want = found("`(\\w+)`", m.group(1));
            sheet.expect(calls.equals(want), "behind " + m.group(2) + " stand " + calls + ", due are " + want);
        }
        due("parts of the interface", told, 6);
    }

    private static void rows() {
        sheet.says("ROWS of STATES, one for each of these, have as WEIGHT:");
        WhenToSpeak x = new WhenToSpeak();
        x.go(20);
        int[] want = {4, 16, 64, 256, 1024, 4096, 16384, 16384, 16384};
        for (int t = 0; t < want.length; t++) {
            due("all ROWS at TICK " + t, x.fits(0, t), want[t]);
        }
        due("and at the last", x.fits(3, 20), 16384);
    }

    private static void ahead() {
        sheet.says("AHEAD by k TICKS: ODDS of j are the sum over i of");
        WhenToSpeak x = new WhenToSpeak();
        Scene.begin(x, 2, 1, 1, 0);
        Scene.goes(x, 0, 1, 3, 0, 0);
        Scene.goes(x, 1, 0, 1, 1, 0);
        Scene.goes(x, 2, 4, 0, 0, 4);
        Scene.goes(x, 3, 0, 0, 0, 1);
        int[][] want = {{500000, 250000, 250000, 0}, {250000, 500000, 125000, 125000}, {125000, 437500, 250000, 187500}};
        for (int k = 0; k < want.length; k++) {
            for (int j = 0; j < 4; j++) {
                due("STATE " + j + " ahead by " + k, x.odds(0, j, k), want[k][j]);
            }
        }
    }

    private static void letNow() {
        sheet.says("Whether a SAYING of a SET of THINGS by a WAY to a PERSON is LET now:");
        WhenToSpeak x = new WhenToSpeak();
        x.thing(1, 1, 0, 0, 9, 0, 60);
        x.thing(1, 0, 1, 0, 9, 0, 60);
        x.thing(3, 1, 0, 0, 9, 0, 60);
        Scene.law(x, 0, "never way 2;never kind 1 after 3;most 1 in 4;");
        x.dead(2);
        due("of unlike MATTERS", x.barred(0, 3, 0), 0);
        due("of a DEAD one", x.barred(0, 4, 0), 0);
        due("not for that PERSON", x.barred(1, 1, 0), 0);
        due("LET is not all that say() asks for", x.say(0, 3, 0), Sheet.NOT);
        due("a barred WAY", x.barred(0, 1, 2), 1);
        due("it is not LET", x.say(0, 1, 2), Sheet.NOT);
        due("LET", x.say(0, 1, 0), 0);
        x.go(3);
        due("most, in the last of 4 TICKS", x.barred(0, 1, 0), 3);
        x.go(1);
        due("a KIND, in the TICK above 3", x.barred(0, 1, 0), 2);
        due("another KIND", x.barred(0, 2, 0), 0);
        due("is said", x.say(0, 2, 0), 1);
    }

    private static void byAWay() {
        sheet.says("(each in one SAYING at most; 6 THINGS are looked at, the first ones) by a WAY; it is LET in that TICK");
        WhenToSpeak x = new WhenToSpeak();
        x.thing(1, 1, 0, 0, 100, 0, 60);
        for (int best = 0; best < 4; best++) {
            Scene.allWays(x, 50, 10);
            x.seen(best, 100);
            due("100 less 8", x.plan(0, 1, NONE, 0), 92);
            due("the SET", x.plan(0, 1, 0, 0), 1);
            due("the WAY that is SEEN most", x.plan(0, 1, 0, 1), best);
            Scene.law(x, 0, "never way " + best + ";");
            due("50 less 8", x.plan(0, 1, NONE, 0), 42);
            due("the first that is LET", x.plan(0, 1, 0, 1), best == 0 ? 1 : 0);
            x.read(0);
        }
    }

    /** What stands in the document from its terms on, but for headings, marks and what is not promised. */
    private static void everySentence() throws IOException {
        sheet.says("Words in capitals are told where they come first.");
        boolean[] quoted = new boolean[sheet.document.length()];
        for (String quote : quotes()) {
            for (int at = sheet.document.indexOf(quote); at >= 0; at = sheet.document.indexOf(quote, at + 1)) {
                Arrays.fill(quoted, at, at + quote.length(), true);
            }
        }
        Matcher mark = Pattern.compile("## Terms|```(text)?|======== \\d|Ahead of the calls [^.]*\\.|## Promise \\d+: [\\w ]+ `[^`]*`:")
            .matcher(sheet.document);
        while (mark.find()) {
            Arrays.fill(quoted, mark.start(), mark.end(), true);
        }
        int first = sheet.document.indexOf("## Terms");
        int last = sheet.document.indexOf("## Not promised");
        sheet.expect(first > 0 && last > first, "the document has other parts");
        StringBuilder left = new StringBuilder();
        for (int at = first; at < last; at++) {
            left.append(quoted[at] ? '\n' : sheet.document.charAt(at));
        }
        for (String part : left.toString().split("\n+")) {
            // Signs and a joining word may stand between two quotes.
            sheet.expect(part.replaceAll("[^A-Za-z0-9]", "").length() <= 3, "no test quotes: " + part);
        }
    }

    private static List<String> quotes() throws IOException {
        List<String> all = new ArrayList<>();
        Pattern call = Pattern.compile("(?:says|promise)\\((?:\\d+,\\s*)?(" + LITERAL + "(?:\\s*\\+\\s*" + LITERAL + ")*)\\)");
        try (DirectoryStream<Path> files = Files.newDirectoryStream(Path.of(TESTS), "*Test.java")) {
            for (Path file : files) {
                Matcher m = call.matcher(Files.readString(file));
                while (m.find()) {
                    all.add(String.join("", found(LITERAL, m.group(1))));
                }
            }
        }
        return all;
    }
}
