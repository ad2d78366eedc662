import java.io.IOException;
import java.lang.management.ManagementFactory;
import java.lang.reflect.Constructor;
import java.lang.reflect.Field;
import java.lang.reflect.Method;
import java.lang.reflect.Modifier;
import java.nio.file.Files;
import java.nio.file.Path;
import java.util.ArrayList;
import java.util.Arrays;
import java.util.List;
import java.util.Set;
import java.util.TreeSet;
import java.util.regex.Matcher;
import java.util.regex.Pattern;

/** The public face, the form that LANGUAGE.md asks for, and how little the calls make. */
public final class FormTest {
    private static final String SOURCE = "src/main/java/WhenToSpeak.java";
    private static final String FACE = "int move(int,int,int) int shows(int,int,int) int begins(int,int) int seams(int) "
        + "int sign(int,int) int go(int) int fits(int,int) int odds(int,int,int) int seam(int,int) int until(int,int) "
        + "int thing(int,int,int,int,int,int,int) int dead(int) int told(int,int) int value(int,int,int) "
        + "int cost(int,int,int) int seen(int,int) int loss(int,int,int) int count(int) int feed(int,long) int read(int) "
        + "int fault() int barred(int,int,int) int plan(int,int,int,int) int say(int,int,int) int came(int,int) "
        + "int saying(int,int) int learnt(int,int,int) int who(int,int) int tried(int,int,int,int)";
    private static final String[] FORBIDDEN = {
        "\\b(throw|throws|try|catch|finally|synchronized|assert|import|package|protected|volatile|native|transient|strictfp)\\b",
        "->", "::", "Exact\\b", "\\bSystem\\.(?!arraycopy\\b)", "\\b(Thread|Random|Object|Scanner|Runtime|Class)\\b",
        "\\b(hashCode|toString|getClass|currentTimeMillis|nanoTime)\\b", "\"\\s*\\+|\\+\\s*\"", "\\bvar\\b", "\\[\\]\\[\\]\\["};

    private static int wrong;

    public static void main(String[] args) throws IOException {
        face();
        constants();
        classesInside();
        source(Files.readString(Path.of(SOURCE)));
        room();
        System.out.println(wrong == 0 ? "the form is as due" : wrong + " faults of form");
        if (wrong != 0) {
            System.exit(1);
        }
    }

    private static void expect(boolean good, String what) {
        if (!good) {
            wrong++;
            System.out.println("wrong: " + what);
        }
    }

    private static void face() {
        expect(Modifier.isPublic(WhenToSpeak.class.getModifiers()), "the class is public");
        expect(Modifier.isFinal(WhenToSpeak.class.getModifiers()), "the class is final");
        Set<String> due = new TreeSet<>(Arrays.asList(FACE.split(" (?=int [a-z]+\\()")));
        Set<String> found = new TreeSet<>();
        Set<String> names = new TreeSet<>();
        for (Method m : WhenToSpeak.class.getDeclaredMethods()) {
            if (!Modifier.isPrivate(m.getModifiers())) {
                List<String> types = new ArrayList<>();
                for (Class<?> c : m.getParameterTypes()) {
                    types.add(c.getSimpleName());
                }
                found.add(m.getReturnType().getSimpleName() + " " + m.getName() + "(" + String.join(",", types) + ")");
                names.add(m.getName());
                expect(Modifier.isPublic(m.getModifiers()), m.getName() + " is public");
            }
        }
        expect(found.equals(due), "the methods are " + found);
        for (Method m : WhenToSpeak.class.getDeclaredMethods()) {
            expect(!Modifier.isPrivate(m.getModifiers()) || !names.contains(m.getName()), "private " + m.getName() + " bears a public name");
        }
        for (Class<?> c : WhenToSpeak.class.getDeclaredClasses()) {
            for (Method m : c.getDeclaredMethods()) {
                expect(!names.contains(m.getName()), c.getSimpleName() + "." + m.getName() + " bears a public name");
            }
        }
        Constructor<?>[] made = WhenToSpeak.class.getDeclaredConstructors();
        expect(made.length == 1 && Modifier.isPublic(made[0].getModifiers()) && made[0].getParameterCount() == 0, "one public constructor");
    }

    private static void constants() {
        Set<String> open = new TreeSet<>();
        for (Field f : WhenToSpeak.class.getDeclaredFields()) {
            if (!Modifier.isPrivate(f.getModifiers())) {
                open.add(f.getName());
                expect(Modifier.isPublic(f.getModifiers()) && Modifier.isStatic(f.getModifiers()) && Modifier.isFinal(f.getModifiers())
                    && f.getType() == int.class, f.getName() + " is a public constant");
            }
        }
        expect(open.equals(new TreeSet<>(Arrays.asList("NONE", "UNKNOWN", "OUTSIDE", "NOT", "FULL"))), "the constants are " + open);
        expect(WhenToSpeak.NONE == -1 && WhenToSpeak.UNKNOWN == -1001 && WhenToSpeak.OUTSIDE == -1002
            && WhenToSpeak.NOT == -1003 && WhenToSpeak.FULL == -1004, "their numbers");
    }

    private static void classesInside() {
        List<Class<?>> all = new ArrayList<>(Arrays.asList(WhenToSpeak.class.getDeclaredClasses()));
        expect(all.size() + 1 <= 12, "at most twelve classes, not " + (all.size() + 1));
        all.add(WhenToSpeak.class);
        for (Class<?> c : all) {
            int own = 0;
            for (Field f : c.getDeclaredFields()) {
                boolean constant = Modifier.isStatic(f.getModifiers());
                own += constant ? 0 : 1;
                expect(!constant || Modifier.isFinal(f.getModifiers()), c.getSimpleName() + "." + f.getName() + " is final");
            }
            expect(own <= 20, c.getSimpleName() + " has at most twenty fields, not " + own);
            expect(c == WhenToSpeak.class || Modifier.isStatic(c.getModifiers()), c.getSimpleName() + " is static");
            for (Method m : c.getDeclaredMethods()) {
                expect(m.getParameterCount() <= 7, m.getName() + " takes at most seven");
            }
            for (Constructor<?> made : c.getDeclaredConstructors()) {
                expect(made.getParameterCount() <= 7, c.getSimpleName() + "() takes at most seven");
            }
        }
    }

    private static void source(String text) {
        expect(text.chars().allMatch(ch -> ch == '\n' || ch >= 32 && ch < 127), "signs of the source are 32 to 126");
        String code = text.replaceAll("(?s)/\\*.*?\\*/", "").replaceAll("//[^\n]*", "");
        for (String pattern : FORBIDDEN) {
            Matcher m = Pattern.compile(pattern).matcher(code);
            if (m.find()) {
                expect(false, "forbidden: " + m.group());
            }
        }
        int start = 0;
        String[] lines = text.split("\n");
        for (int i = 0; i < lines.length; i++) {
            if (lines[i].matches(" +[a-zA-Z].*\\) \\{") && !lines[i].matches(" +(if|for|while|switch|else).*")) {
                start = i;
            }
            if (lines[i].matches(" {4}( {4})?\\}")) {
                expect(i - start <= 60, "a method of " + (i - start) + " lines ends at line " + (i + 1));
                start = i;
            }
        }
    }

    /** What a call makes is counted: after some calls to warm up, the dearest ones make nothing. */
    private static void room() {
        com.sun.management.ThreadMXBean bean = (com.sun.management.ThreadMXBean) ManagementFactory.getThreadMXBean();
        long thread = Thread.currentThread().getId();
        WhenToSpeak x = new WhenToSpeak();
        for (int t = 0; t < 10; t++) {
            x.thing(15, t % 4, 0, t, 900, t, 60);
        }
        everyCall(x);
        long before = bean.getThreadAllocatedBytes(thread);
        for (int i = 0; i < 20; i++) {
            everyCall(x);
        }
        long made = bean.getThreadAllocatedBytes(thread) - before;
        expect(made < 4096, "twenty rounds of calls made " + made + " bytes");
        before = bean.getThreadAllocatedBytes(thread);
        x = new WhenToSpeak();
        made = bean.getThreadAllocatedBytes(thread) - before;
        expect(made < 64 * 1024, "an object takes " + made + " bytes");
        expect(x.count(0) == 0, "it is new");
    }

    private static void everyCall(WhenToSpeak x) {
        String law = "most 3 in 6;most 2 in 3;never kind 2 after 5;always from 3;never way 1 state 1 20;";
        for (int i = 0; i < law.length(); i++) {
            x.feed(1, law.charAt(i));
        }
        x.read(0);
        x.plan(0, 6, -1, 0);
        x.plan(1, 6, 5, 1);
        x.tried(0, 500000, 0, 2);
        x.barred(0, 3, 0);
        x.say(1, 3, 0);
        x.came(0, 1);
        x.learnt(0, 1, 5);
        x.who(3, 1);
        x.until(2, 1000000);
        x.go(1);
        x.sign(0, 2);
        x.fits(0, 1);
        x.odds(0, 1, 8);
        x.value(2, 0, 8);
        x.loss(0, 0, 8);
        x.count(3);
        x.told(1, 5);
    }
}
