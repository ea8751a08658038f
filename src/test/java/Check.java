import java.util.NoSuchElementException;
import java.util.function.LongSupplier;

/** Counts answers that are not as due, and ends the test with them. */
final class Check {
    static final Class<? extends RuntimeException> BOUNDS = IndexOutOfBoundsException.class;
    static final Class<? extends RuntimeException> ARGUMENT = IllegalArgumentException.class;
    static final Class<? extends RuntimeException> STATE = IllegalStateException.class;
    static final Class<? extends RuntimeException> NONE = NoSuchElementException.class;
    static final Class<? extends RuntimeException> ARITHMETIC = ArithmeticException.class;

    private static int made = 0;
    private static int wrong = 0;

    private Check() {}

    static void due(String what, long got, long want) {
        made++;
        if (got != want) {
            fail(what + " answered " + got + ", due is " + want);
        }
    }

    static void due(String what, double got, double want) {
        made++;
        if (Double.compare(got, want) != 0) {
            fail(what + " answered " + got + ", due is " + want);
        }
    }

    static void holds(String what, boolean isSo) {
        made++;
        if (!isSo) {
            fail(what + " does not hold");
        }
    }

    /** The very class is asked for, since the machine's own exceptions are of classes below it. */
    static void refused(
            String what, Spanwarden x, Class<? extends RuntimeException> due, LongSupplier call) {
        made++;
        String before = stateOf(x);
        try {
            fail(what + " answered " + call.getAsLong() + ", due is " + due.getSimpleName());
        } catch (RuntimeException e) {
            if (e.getClass() != due) {
                fail(what + " threw " + e + ", due is " + due.getSimpleName());
            }
        }
        if (!before.equals(stateOf(x))) {
            fail(what + " was refused and changed something");
        }
    }

    /** All that can be asked of an object without changing it. */
    static String stateOf(Spanwarden x) {
        StringBuilder state = new StringBuilder();
        state.append(x.checksum()).append(' ').append(polledOf(x));
        for (int row = 0; row < 61; row++) {
            try {
                state.append(' ').append(x.drained(row));
            } catch (IndexOutOfBoundsException e) {
                return state.append(" row ").append(row).toString();
            }
        }
        return state.toString();
    }

    private static String polledOf(Spanwarden x) {
        try {
            return String.valueOf(x.polled());
        } catch (NoSuchElementException e) {
            return "none";
        }
    }

    static void fail(String text) {
        wrong++;
        if (wrong <= 40) {
            System.out.println(text);
        }
    }

    static void end() {
        System.out.println(made + " checks, " + wrong + " wrong");
        if (wrong != 0 || made == 0) {
            System.exit(1);
        }
    }
}
