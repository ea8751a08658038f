import java.lang.reflect.InvocationTargetException;
import java.lang.reflect.Method;
import java.util.Arrays;
import java.util.Comparator;
import java.util.List;
import java.util.NoSuchElementException;
import java.util.function.IntFunction;
import java.util.function.Supplier;

/** Counts answers that are not as due, and ends the test with them. */
final class Check {
    static final int LEAST = Integer.MIN_VALUE;
    static final int MOST = Integer.MAX_VALUE;
    static final boolean[] BOTH = {false, true};

    static final Class<? extends RuntimeException> BOUNDS = IndexOutOfBoundsException.class;
    static final Class<? extends RuntimeException> ARGUMENT = IllegalArgumentException.class;
    static final Class<? extends RuntimeException> STATE = IllegalStateException.class;
    static final Class<? extends RuntimeException> NONE = NoSuchElementException.class;
    static final Class<? extends RuntimeException> ARITHMETIC = ArithmeticException.class;

    private static String running = "";
    private static int made = 0;
    private static int wrong = 0;

    private Check() {}

    /** Runs each test of a class, a method that quotes the document, and ends with them. */
    static void runAll(Class<?> tests) throws IllegalAccessException {
        for (Method test : testsOf(tests)) {
            running = test.getName() + ": ";
            int before = made;
            try {
                test.invoke(null);
            } catch (InvocationTargetException e) {
                e.getCause().printStackTrace(System.out);
                fail("threw " + e.getCause());
            }
            if (made == before) {
                fail("checks nothing");
            }
        }
        running = "";
        end();
    }

    static List<Method> testsOf(Class<?> tests) {
        return Arrays.stream(tests.getDeclaredMethods())
                .filter(method -> method.isAnnotationPresent(Told.class))
                .sorted(Comparator.comparing(Method::getName))
                .toList();
    }

    static void due(String what, long got, long want) {
        made++;
        if (got != want) {
            fail(what + " answered " + got + ", due is " + want);
        }
    }

    static void due(String what, double got, double want) {
        made++;
        if (Double.compare(got, want) != 0) {
            fail(what + " answered " + got + ", due is " + want);
        }
    }

    static void holds(String what, boolean isSo) {
        made++;
        if (!isSo) {
            fail(what + " does not hold");
        }
    }

    /** The very class is asked for, since the machine's own exceptions are of classes below it. */
    static void refused(
            String what, Spanwarden x, Class<? extends RuntimeException> due, Supplier<?> call) {
        made++;
        String before = State.of(x);
        try {
            fail(what + " answered " + call.get() + ", due is " + due.getSimpleName());
        } catch (RuntimeException e) {
            if (e.getClass() != due) {
                fail(what + " threw " + e + ", due is " + due.getSimpleName());
            }
        }
        if (!before.equals(State.of(x))) {
            fail(what + " was refused and changed something");
        }
    }

    /** Places just outside 0 to count - 1, and those far outside, are refused. */
    static void refusedOutside(int count, Spanwarden x, IntFunction<?> call) {
        for (int place : new int[] {-1, count, LEAST, MOST}) {
            refused("place " + place, x, BOUNDS, () -> call.apply(place));
        }
    }

    /** Signs that are none of these letters: great ones, neighbours, the ends, upper halves. */
    static char[] lettersBut(String letters) {
        StringBuilder others = new StringBuilder().append((char) 0).append((char) 0xffff);
        for (char letter : letters.toCharArray()) {
            int[] signs = {letter - 32, letter - 1, letter + 1, letter + 256, letter + 0x8000};
            for (int sign : signs) {
                if (letters.indexOf(sign) < 0) {
                    others.append((char) sign);
                }
            }
        }
        return others.toString().toCharArray();
    }

    /** A map has just these entries: keys, rising, each with its value. */
    static void entries(String what, Spanwarden x, int map, int... entries) {
        due(what + ", size", x.size(map), entries.length / 2);
        for (int i = 0; i + 1 < entries.length && i / 2 < x.size(map); i += 2) {
            due(what + ", key", x.keyAt(map, i / 2, false), entries[i]);
            due(what + ", value", x.value(map, x.keyAt(map, i / 2, false)), entries[i + 1]);
        }
    }

    /** A view has just these keys, rising. */
    static void keys(String what, Spanwarden x, int view, int... keys) {
        due(what + ", size", x.viewSize(view), keys.length);
        for (int i = 0; i < keys.length && keys.length == x.viewSize(view); i++) {
            int key = i == 0 ? x.viewEnd(view, false) : x.viewNear(view, keys[i - 1], 'h');
            due(what + ", key", key, keys[i]);
        }
    }

    static void fail(String text) {
        wrong++;
        if (wrong <= 40) {
            System.out.println(running + text);
        }
    }

    static void end() {
        System.out.println(made + " checks, " + wrong + " wrong");
        if (wrong != 0 || made == 0) {
            System.exit(1);
        }
    }
}
