import java.util.Map;
import java.util.TreeMap;
import java.util.function.Function;

/** Long runs of calls, drawn by a fixed rule, on the class and on the model at once. */
public final class ModelTest {
    private static final int RUNS = 900;
    private static final int CALLS = 512;
    private static final int LEAST = Integer.MIN_VALUE;
    private static final int MOST = Integer.MAX_VALUE;
    private static final String[] METHODS = {
        "put", "value", "remove", "near", "end", "poll", "polled", "drain", "drained", "size",
        "keyAt", "mark", "isLike", "open", "cut", "viewPut", "viewRemove", "viewNear", "viewEnd",
        "viewPoll", "viewClear", "viewSize", "lies", "step", "forget", "play", "playBoth", "meet",
        "opposite", "combine", "fullShare", "meanKey", "checksum", "isSound",
    };
    // Kinds of answers that the runs must have met, or they test less than they claim.
    private static final String[] MUST_MEET = {
        "put STATE", "cut NONE", "cut ARGUMENT", "cut STATE", "viewPut NONE", "viewPut ARGUMENT",
        "viewPut STATE", "viewNear ARGUMENT", "viewNear NONE", "viewPoll NONE", "step ARGUMENT",
        "step STATE", "play STATE", "playBoth STATE", "combine ARGUMENT", "combine STATE",
        "meanKey ARITHMETIC", "polled NONE", "drained BOUNDS", "keyAt BOUNDS",
    };

    private static long seed = 20261118;
    private static int profile;

    public static void main(String[] args) {
        Map<String, Integer> met = new TreeMap<>();
        for (int run = 0; run < RUNS; run++) {
            profile = run % 6;
            if (!isRunAlike(run, met)) {
                break;
            }
        }
        for (String kind : MUST_MEET) {
            Check.holds("the runs meet " + kind, met.getOrDefault(kind, 0) > 0);
        }
        for (String method : METHODS) {
            Check.holds("the runs answer " + method, met.getOrDefault(method + " ok", 0) > 0);
        }
        Check.end();
    }

    private static boolean isRunAlike(int run, Map<String, Integer> met) {
        Spanwarden x = new Spanwarden();
        Model model = new Model();
        for (int i = 0; i < CALLS; i++) {
            String method = drawMethod();
            Object[] arguments = drawArguments(method);
            Object got = answer(x, method, arguments);
            Object due = answer(model, method, arguments);
            String call = "run " + run + ", call " + i + ": " + method + show(arguments);
            Check.holds(call + " answered " + got + ", due is " + due + ", which", got.equals(due));
            Check.holds("checksum after " + call, x.checksum() == model.checksum());
            met.merge(method + " " + kindOf(due), 1, Integer::sum);
            if (!got.equals(due) || x.checksum() != model.checksum()) {
                return false;
            }
        }
        Check.holds("soundness after run " + run, x.isSound());
        return true;
    }

    private static String show(Object[] arguments) {
        StringBuilder text = new StringBuilder("(");
        for (Object argument : arguments) {
            text.append(text.length() > 1 ? ", " : "").append(argument);
        }
        return text.append(")").toString();
    }

    private static String kindOf(Object answer) {
        if (answer == Check.BOUNDS) {
            return "BOUNDS";
        }
        if (answer == Check.ARGUMENT) {
            return "ARGUMENT";
        }
        if (answer == Check.STATE) {
            return "STATE";
        }
        if (answer == Check.ARITHMETIC) {
            return "ARITHMETIC";
        }
        return answer == Check.NONE ? "NONE" : "ok";
    }

    private static int draw(int bound) {
        seed = seed * 6364136223846793005L + 1442695040888963407L;
        return (int) ((seed >>> 33) % bound);
    }

    private static boolean isDrawn() {
        return draw(2) == 0;
    }

    /** A number of a kind that fits the run: few keys, many, or those at the ends of all. */
    private static int drawNumber() {
        int[] edges = {LEAST, LEAST + 1, -1, 0, 1, MOST - 1, MOST};
        switch (draw(40)) {
            case 0:
                return edges[draw(edges.length)];
            case 1:
                return (int) (draw(1 << 16) * 65537L);
            default:
                int width = profile == 0 ? 8 : profile == 5 ? 400 : 90;
                return profile == 3 ? edges[draw(edges.length)] + draw(9) - 4 : draw(width) - 4;
        }
    }

    private static int drawPlace(int count) {
        int[] wrong = {-1, count, LEAST, MOST};
        return draw(60) == 0 ? wrong[draw(4)] : draw(count);
    }

    private static char drawLetter(String letters) {
        return draw(60) == 0 ? (char) draw(70000) : letters.charAt(draw(letters.length()));
    }

    private static String drawMethod() {
        int kind = draw(10);
        if (kind < 5) {
            String[][] often = {
                {"put", "put", "viewPut", "step", "open"},
                {"put", "put", "put", "viewPut", "viewPut"},
                {"step", "step", "play", "playBoth", "opposite"},
                {"put", "near", "open", "cut", "viewNear"},
                {"open", "cut", "cut", "cut", "cut"},
                {"put", "put", "step", "combine", "play"},
            };
            return often[profile][draw(5)];
        }
        String method = METHODS[draw(METHODS.length)];
        // These undo what fills an object up.
        boolean isEmptying =
                method.equals("drain") || method.equals("forget") || method.equals("viewClear");
        return isEmptying && draw(4) != 0 ? "put" : method;
    }

    private static Object[] drawArguments(String method) {
        switch (method) {
            case "put":
                // One map is filled more than the others, so that it gets full.
                return new Object[] {isDrawn() ? 0 : drawPlace(3), drawNumber(), drawValue()};
            case "value":
            case "remove":
                return new Object[] {drawPlace(3), drawNumber()};
            case "near":
                return new Object[] {drawPlace(3), drawNumber(), drawLetter("fchl")};
            case "end":
            case "poll":
            case "drain":
                return new Object[] {drawPlace(3), isDrawn()};
            case "drained":
                return new Object[] {drawPlace(20)};
            case "keyAt":
                return new Object[] {drawPlace(3), drawPlace(30), isDrawn()};
            case "isLike":
            case "meet":
                return new Object[] {drawPlace(3), drawPlace(3)};
            case "open":
                return drawSpan();
            case "cut":
                return drawCut();
            case "viewPut":
                return new Object[] {drawPlace(4), drawNumber(), drawValue()};
            case "viewRemove":
            case "lies":
                return new Object[] {drawPlace(4), drawNumber()};
            case "viewNear":
                return new Object[] {drawPlace(4), drawNumber(), drawLetter("fchl")};
            case "viewEnd":
            case "viewPoll":
                return new Object[] {drawPlace(4), isDrawn()};
            case "viewClear":
            case "viewSize":
                return new Object[] {drawPlace(4)};
            case "step":
                return new Object[] {
                    drawPlace(3), drawLetter("prsax"), drawNumber(), drawValue()
                };
            case "playBoth":
                int turns = draw(1 << 16) << 16 | draw(1 << 16);
                return new Object[] {drawPlace(3), drawPlace(3), turns, drawPlace(3)};
            case "play":
                return new Object[] {drawPlace(3), drawPlace(3)};
            case "opposite":
                return new Object[] {drawPlace(3), drawPlace(3), drawPlace(3)};
            case "combine":
                return new Object[] {drawPlace(3), drawPlace(3), drawLetter("sgl")};
            case "polled":
            case "checksum":
            case "isSound":
                return new Object[] {};
            default:
                return new Object[] {drawPlace(3)};
        }
    }

    private static int drawValue() {
        return isDrawn() ? draw(5) - 2 : drawNumber() * 97;
    }

    private static Object[] drawSpan() {
        int from = drawNumber();
        int to = drawNumber();
        boolean isWide = profile == 4 || draw(3) == 0;
        if (isWide) {
            from = LEAST + draw(2);
            to = MOST - draw(2);
        } else if (from > to && draw(10) != 0) {
            int swapped = from;
            from = to;
            to = swapped;
        }
        return new Object[] {drawPlace(4), drawPlace(3), from, isDrawn(), to, isDrawn()};
    }

    private static Object[] drawCut() {
        int view = drawPlace(4);
        boolean isHead = isDrawn();
        if (profile != 4) {
            return new Object[] {view, drawPlace(4), isHead, drawNumber(), isDrawn()};
        }
        // Numbers that few cuts take out of the span, so that many come behind one another.
        int number = isHead ? 60 - draw(3) : draw(3);
        return new Object[] {view, isDrawn() ? view : drawPlace(4), isHead, number, draw(4) > 0};
    }

    /** The answer, or the very class of what was thrown. */
    private static Object answer(Object asked, String method, Object[] arguments) {
        Function<Object[], Object> call =
                asked instanceof Spanwarden
                        ? a -> Calls.ofClass((Spanwarden) asked, method, a)
                        : a -> Calls.ofModel((Model) asked, method, a);
        try {
            return call.apply(arguments);
        } catch (RuntimeException e) {
            return e.getClass();
        }
    }
}
