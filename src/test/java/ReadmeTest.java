import java.io.IOException;
import java.lang.reflect.Method;
import java.lang.reflect.Modifier;
import java.nio.file.Files;
import java.nio.file.Path;

/** The example of README.md answers what it says there, and README.md names every call. */
public final class ReadmeTest {
    private static int wrong;

    public static void main(String[] args) throws IOException {
        String readme = Files.readString(Path.of("README.md"));
        example();
        sameLines(readme);
        everyCall(readme);
        System.out.println(wrong == 0 ? "README.md is as due" : wrong + " faults of README.md");
        if (wrong != 0) {
            System.exit(1);
        }
    }

    private static void expect(boolean good, String otherwise) {
        if (!good) {
            wrong++;
            System.out.println("wrong: " + otherwise);
        }
    }

    private static void due(String name, int got, int want) {
        expect(got == want, name + " is " + got + ", due is " + want);
    }

    private static void example() {
        WhenToSpeak x = new WhenToSpeak();
        x.seams(1);
        x.shows(0, 2, 4);
        x.sign(0, 2);
        int seam = x.seam(0, 0);
        int soon = x.until(0, 500000);
        int t = x.thing(1, 0, 0, 3, 50, 5, 20);
        x.feed(8, 0x6d6f737420312069L);
        x.feed(4, 0x6e20353bL);
        int clauses = x.read(0);
        int gain = x.plan(0, 3, WhenToSpeak.NONE, 0);
        int set = x.plan(0, 3, 0, 0);
        int way = x.plan(0, 3, 0, 1);
        int s = x.say(0, set, way);
        x.came(s, 1);
        int standing = x.told(t, 5);
        int again = x.say(0, 1, 0);
        int bar = x.barred(0, 1, 0);
        int tick = x.go(3);
        int paid = x.tried(0, 500000, 0, 2);
        due("seam", seam, 571428);
        due("soon", soon, 0);
        due("t", t, 0);
        due("clauses", clauses, 1);
        due("gain", gain, 1017);
        due("set", set, 1);
        due("way", way, 0);
        due("s", s, 0);
        due("standing", standing, 1);
        due("again", again, WhenToSpeak.NOT);
        due("bar", bar, 3);
        due("tick", tick, 3);
        due("paid", paid, 8);
    }

    /** The lines of the example stand in this file, side by side, without their comments. */
    private static void sameLines(String readme) throws IOException {
        String here = Files.readString(Path.of("src/test/java/ReadmeTest.java")).replaceAll("\\s+", " ");
        String[] parts = readme.split("```java\n");
        expect(parts.length == 2, "README.md has one example");
        String lines = parts[parts.length - 1].split("```")[0].replaceAll("//[^\n]*", "").replaceAll("\\s+", " ").trim();
        expect(here.contains(lines), "the example of README.md is another one");
    }

    private static void everyCall(String readme) {
        for (Method m : WhenToSpeak.class.getDeclaredMethods()) {
            if (Modifier.isPublic(m.getModifiers())) {
                expect(readme.contains("`" + m.getName() + "`"), m.getName() + " is not told of");
            }
        }
    }
}
