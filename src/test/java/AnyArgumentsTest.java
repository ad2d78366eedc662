import java.lang.reflect.InvocationTargetException;
import java.lang.reflect.Method;
import java.lang.reflect.Modifier;
import java.util.ArrayList;
import java.util.Arrays;
import java.util.Comparator;
import java.util.List;
import java.util.Random;

/**
 * No call throws, whatever its arguments, on objects that are new, busy and full; and no
 * answer is a negative number but those that the document tells of.
 */
public final class AnyArgumentsTest {
    private static final int[] NUMBERS = {Integer.MIN_VALUE, Integer.MIN_VALUE + 1, -65536, -1004, -1001, -2, -1, 0, 1, 2, 3, 4, 5, 6, 7,
        8, 9, 10, 15, 16, 20, 21, 31, 32, 39, 40, 60, 61, 63, 64, 99, 100, 999, 1000, 1023, 1024, 65536, 1000000, 1000001,
        Integer.MAX_VALUE - 1, Integer.MAX_VALUE};
    private static final int ROUNDS = 60;
    private static final int CALLS = 150;

    private static int calls;
    private static int wrong;

    public static void main(String[] args) {
        List<Method> methods = new ArrayList<>();
        for (Method m : WhenToSpeak.class.getDeclaredMethods()) {
            if (Modifier.isPublic(m.getModifiers())) {
                methods.add(m);
            }
        }
        methods.sort(Comparator.comparing(Method::getName));
        Random r = new Random(30);
        for (int round = 0; round < ROUNDS; round++) {
            for (int scene = 0; scene < 3; scene++) {
                WhenToSpeak x = scene == 0 ? new WhenToSpeak() : scene == 1 ? Scene.busy() : Scene.full();
                for (int i = 0; i < CALLS; i++) {
                    call(x, methods.get(r.nextInt(methods.size())), r);
                }
            }
        }
        everyPair(methods);
        System.out.println(calls + " calls with any arguments, " + wrong + " wrong");
        if (wrong != 0) {
            System.exit(1);
        }
    }

    /** Each number in each place, the others being good ones. */
    private static void everyPair(List<Method> methods) {
        for (Method m : methods) {
            int places = m.getParameterCount();
            for (int place = 0; place < places; place++) {
                WhenToSpeak x = Scene.busy();
                WhenToSpeak y = Scene.full();
                for (int number : NUMBERS) {
                    Object[] a = new Object[places];
                    for (int i = 0; i < places; i++) {
                        a[i] = argument(m, i, i == place ? number : 1);
                    }
                    ask(x, m, a);
                    ask(y, m, a);
                }
            }
        }
    }

    private static void call(WhenToSpeak x, Method m, Random r) {
        Object[] a = new Object[m.getParameterCount()];
        for (int i = 0; i < a.length; i++) {
            int number = r.nextInt(3) == 0 ? NUMBERS[r.nextInt(NUMBERS.length)] : r.nextInt(5);
            a[i] = argument(m, i, number);
        }
        ask(x, m, a);
    }

    private static Object argument(Method m, int place, int number) {
        if (m.getParameterTypes()[place] == long.class) {
            return (long) number * 0x100000001L;
        }
        return number;
    }

    private static void ask(WhenToSpeak x, Method m, Object[] a) {
        calls++;
        try {
            int got = (Integer) m.invoke(x, a);
            boolean refusal = got >= WhenToSpeak.FULL && got <= WhenToSpeak.UNKNOWN;
            boolean fault = m.getName().equals("read") && got >= -13 && got <= -11;
            if (got < WhenToSpeak.NONE && !refusal && !fault) {
                tell(m, a, "answered " + got);
            }
        } catch (InvocationTargetException e) {
            tell(m, a, "threw " + e.getCause());
        } catch (IllegalAccessException e) {
            tell(m, a, "cannot be called");
        }
    }

    private static void tell(Method m, Object[] a, String what) {
        wrong++;
        if (wrong <= 10) {
            System.out.println(m.getName() + Arrays.toString(a) + " " + what);
        }
    }
}
