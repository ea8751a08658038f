import java.lang.reflect.Method;
import java.lang.reflect.Modifier;
import java.util.Arrays;
import java.util.TreeSet;

/** Runs of calls on the class and on the model at once: drawn ones, and all spans of few keys. */
public final class ModelTest {
    private static final String BY_THE_LIBRARY =
            "Three sorted maps, views of them and views of views, and histories of steps, by the"
                    + " sorted map of the language's own library: the class drives"
                    + " java.util.TreeMap, of ints to ints in their own order, and its subMap,"
                    + " headMap and tailMap, and what is told here is what these are documented to"
                    + " do";

    private static final int RUNS = 1200;
    // With a checksum behind each 16th call, and isSound() in the end, these are 511 calls.
    private static final int CALLS = 480;
    private static final int CALLS_TO_CHECKSUM = 16;
    private static final int LEAST = Integer.MIN_VALUE;
    private static final int MOST = Integer.MAX_VALUE;
    private static final String[] METHODS = {
        "put", "value", "remove", "near", "end", "poll", "polled", "drain", "drained", "size",
        "keyAt", "mark", "isLike", "open", "cut", "viewPut", "viewRemove", "viewNear", "viewEnd",
        "viewPoll", "viewClear", "viewSize", "lies", "step", "forget", "play", "playBoth", "meet",
        "opposite", "combine", "fullShare", "meanKey", "checksum", "isSound",
    };

    private static long seed = 20261118;
    private static int profile;

    public static void main(String[] args) throws IllegalAccessException {
        Check.runAll(ModelTest.class);
    }

    @Told(BY_THE_LIBRARY)
    static void drawnRunsAreAnsweredAlike() {
        TreeSet<String> met = new TreeSet<>();
        boolean isAlike = true;
        for (int run = 0; run < RUNS && isAlike; run++) {
            profile = run % 6;
            isAlike = isRunAlike(run, met);
        }
        // Runs that never met some kind of answer would test less than they claim.
        for (Method method : Spanwarden.class.getDeclaredMethods()) {
            if (Modifier.isPublic(method.getModifiers())) {
                String name = method.getName();
                Check.holds("the runs answer " + name, met.contains(name));
                for (Class<?> thrown : method.getExceptionTypes()) {
                    Check.holds(name + " throws " + thrown, met.contains(name + thrown));
                }
            }
        }
    }

    private static boolean isRunAlike(int run, TreeSet<String> met) {
        Spanwarden x = new Spanwarden();
        Model model = new Model();
        for (int i = 1; i <= CALLS; i++) {
            String method = drawMethod();
            if (!isAnsweredAlike("run " + run, x, model, met, method, drawArguments(method))) {
                return false;
            }
            if (i % CALLS_TO_CHECKSUM == 0
                    && !isAnsweredAlike("run " + run, x, model, met, "checksum")) {
                return false;
            }
        }
        return isAnsweredAlike("run " + run, x, model, met, "isSound");
    }

    private static boolean isAnsweredAlike(
            String run, Spanwarden x, Model model, TreeSet<String> met, String method,
            Object... arguments) {
        Object got = Calls.answer(x, method, arguments);
        Object due = Calls.answer(model, method, arguments);
        String call = run + ": " + method + Arrays.toString(arguments);
        Check.holds(call + " answered " + got + ", due is " + due + ", which", got.equals(due));
        met.add(due instanceof Class ? method + due : method);
        return got.equals(due);
    }

    @Told(BY_THE_LIBRARY)
    static void allSpansOfFewKeysAreAnsweredAlike() {
        for (int from = -3; from <= 4; from++) {
            for (int to = -3; to <= 4; to++) {
                for (int ends = 0; ends < 4; ends++) {
                    compareSpan(from, (ends & 1) != 0, to, (ends & 2) != 0);
                }
            }
        }
    }

    private static void compareSpan(int from, boolean isFrom, int to, boolean isTo) {
        Spanwarden x = new Spanwarden();
        Model model = new Model();
        TreeSet<String> met = new TreeSet<>();
        String run = "span " + from + " " + isFrom + " to " + to + " " + isTo;
        for (int key : new int[] {-2, 0, 1, 3}) {
            isAnsweredAlike(run, x, model, met, "put", 0, key, 10 + key);
        }
        isAnsweredAlike(run, x, model, met, "open", 0, 0, from, isFrom, to, isTo);
        for (int number = -4; number <= 5; number++) {
            isAnsweredAlike(run, x, model, met, "lies", 0, number);
            for (char way : "fchl".toCharArray()) {
                isAnsweredAlike(run, x, model, met, "viewNear", 0, number, way);
            }
            for (int cut = 0; cut < 4; cut++) {
                boolean isHead = (cut & 1) != 0;
                boolean isIn = (cut & 2) != 0;
                isAnsweredAlike(run, x, model, met, "cut", 1, 0, isHead, number, isIn);
                isAnsweredAlike(run, x, model, met, "viewEnd", 1, isHead);
            }
        }
        for (boolean isLast : Check.BOTH) {
            isAnsweredAlike(run, x, model, met, "viewEnd", 0, isLast);
            isAnsweredAlike(run, x, model, met, "viewPoll", 0, isLast);
            isAnsweredAlike(run, x, model, met, "checksum");
        }
        isAnsweredAlike(run, x, model, met, "viewClear", 0);
        isAnsweredAlike(run, x, model, met, "checksum");
    }

    private static int draw(int bound) {
        seed = seed * 6364136223846793005L + 1442695040888963407L;
        return (int) ((seed >>> 33) % bound);
    }

    private static boolean isDrawn() {
        return draw(2) == 0;
    }

    /** A number of a kind that fits the run: few keys, many, or those at the ends of all. */
    private static int drawNumber() {
        int[] edges = {LEAST, LEAST + 1, -1, 0, 1, MOST - 1, MOST};
        switch (draw(40)) {
            case 0:
                return edges[draw(edges.length)];
            case 1:
                return (int) (draw(1 << 16) * 65537L);
            default:
                int width = profile == 0 ? 8 : profile == 5 ? 400 : 90;
                return profile == 3 ? edges[draw(edges.length)] + draw(9) - 4 : draw(width) - 4;
        }
    }

    private static int drawPlace(int count) {
        int[] wrong = {-1, count, LEAST, MOST};
        return draw(60) == 0 ? wrong[draw(4)] : draw(count);
    }

    private static char drawLetter(String letters) {
        return draw(60) == 0 ? (char) draw(70000) : letters.charAt(draw(letters.length()));
    }

    private static String drawMethod() {
        int kind = draw(10);
        if (kind < 5) {
            String[][] often = {
                {"put", "put", "viewPut", "step", "open"},
                {"put", "put", "put", "viewPut", "viewPut"},
                {"step", "step", "play", "playBoth", "opposite"},
                {"put", "near", "open", "cut", "viewNear"},
                {"open", "cut", "cut", "cut", "cut"},
                {"put", "put", "step", "combine", "play"},
            };
            return often[profile][draw(5)];
        }
        String method = METHODS[draw(METHODS.length)];
        // These undo what fills an object up.
        boolean isEmptying =
                method.equals("drain") || method.equals("forget") || method.equals("viewClear");
        return isEmptying && draw(4) != 0 ? "put" : method;
    }

    private static Object[] drawArguments(String method) {
        switch (method) {
            case "put":
                // One map is filled more than the others, so that it gets full.
                return new Object[] {isDrawn() ? 0 : drawPlace(3), drawNumber(), drawValue()};
            case "value":
            case "remove":
                return new Object[] {drawPlace(3), drawNumber()};
            case "near":
                return new Object[] {drawPlace(3), drawNumber(), drawLetter("fchl")};
            case "end":
            case "poll":
            case "drain":
                return new Object[] {drawPlace(3), isDrawn()};
            case "drained":
                return new Object[] {drawPlace(20)};
            case "keyAt":
                return new Object[] {drawPlace(3), drawPlace(30), isDrawn()};
            case "isLike":
            case "meet":
                return new Object[] {drawPlace(3), drawPlace(3)};
            case "open":
                return drawSpan();
            case "cut":
                return drawCut();
            case "viewPut":
                return new Object[] {drawPlace(4), drawNumber(), drawValue()};
            case "viewRemove":
            case "lies":
                return new Object[] {drawPlace(4), drawNumber()};
            case "viewNear":
                return new Object[] {drawPlace(4), drawNumber(), drawLetter("fchl")};
            case "viewEnd":
            case "viewPoll":
                return new Object[] {drawPlace(4), isDrawn()};
            case "viewClear":
            case "viewSize":
                return new Object[] {drawPlace(4)};
            case "step":
                return new Object[] {
                    drawPlace(3), drawLetter("prsax"), drawNumber(), drawValue()
                };
            case "playBoth":
                int turns = draw(1 << 16) << 16 | draw(1 << 16);
                return new Object[] {drawPlace(3), drawPlace(3), turns, drawPlace(3)};
            case "play":
                return new Object[] {drawPlace(3), drawPlace(3)};
            case "opposite":
                return new Object[] {drawPlace(3), drawPlace(3), drawPlace(3)};
            case "combine":
                return new Object[] {drawPlace(3), drawPlace(3), drawLetter("sgl")};
            case "polled":
            case "checksum":
            case "isSound":
                return new Object[] {};
            default:
                return new Object[] {drawPlace(3)};
        }
    }

    private static int drawValue() {
        return isDrawn() ? draw(5) - 2 : drawNumber() * 97;
    }

    private static Object[] drawSpan() {
        int from = drawNumber();
        int to = drawNumber();
        boolean isWide = profile == 4 || draw(3) == 0;
        if (isWide) {
            from = LEAST + draw(2);
            to = MOST - draw(2);
        } else if (from > to && draw(10) != 0) {
            int swapped = from;
            from = to;
            to = swapped;
        }
        return new Object[] {drawPlace(4), drawPlace(3), from, isDrawn(), to, isDrawn()};
    }

    private static Object[] drawCut() {
        int view = drawPlace(4);
        boolean isHead = isDrawn();
        if (profile != 4) {
            return new Object[] {view, drawPlace(4), isHead, drawNumber(), isDrawn()};
        }
        // Numbers that few cuts take out of the span, so that many come behind one another.
        int number = isHead ? 60 - draw(3) : draw(3);
        return new Object[] {view, isDrawn() ? view : drawPlace(4), isHead, number, draw(4) > 0};
    }
}
