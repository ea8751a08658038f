/** Promises 25 to 31. */
public final class HistoriesTest {
    private static final String HISTORY = "- `history`: 0 to 2";
    private static final String NO_HISTORY =
            "Throws `IndexOutOfBoundsException` if there is no such history";
    private static final String NO_HISTORY_OR_MAP =
            "Throws `IndexOutOfBoundsException` if there is no such history, or map";
    private static final String NO_HISTORY_FOR_EITHER_OR_MAP =
            "Throws `IndexOutOfBoundsException` if there is no such history, for either, or map";

    public static void main(String[] args) throws IllegalAccessException {
        Check.runAll(HistoriesTest.class);
    }

    /**
     * Steps stand in the checksum alone: it is compared with that of a new object with such steps.
     * The object that is asked is emptied for it, and must have no open view.
     */
    static void stepsAre(String what, Spanwarden x, int history, int... steps) {
        Spanwarden due = new Spanwarden();
        for (int step = 0; step + 2 < steps.length; step += 3) {
            due.step(history, (char) steps[step], steps[step + 1], steps[step + 2]);
        }
        for (int other = 0; other < 3; other++) {
            x.drain(other, false);
            if (other != history) {
                x.forget(other);
            }
        }
        Check.due(what, x.checksum(), due.checksum());
    }

    /** History 0 has the steps 'p' of the keys from begin on, as many as are asked for. */
    private static void addSteps(Spanwarden x, int history, int begin, int count) {
        for (int key = begin; key < begin + count; key++) {
            x.step(history, 'p', key, -1);
        }
    }

    @Told(promise = 25, value = "Adds a step to a history")
    static void stepComesLast() {
        Spanwarden x = new Spanwarden();
        x.step(1, 'p', 5, 1);
        x.step(1, 'r', 4, 2);
        x.step(1, 'p', 5, 3);
        stepsAre("as they came", x, 1, 'p', 5, 1, 'r', 4, 2, 'p', 5, 3);
    }

    @Told(promise = 25, value = HISTORY)
    static void stepOfEachHistory() {
        for (int history = 0; history < 3; history++) {
            Spanwarden x = new Spanwarden();
            x.step(history, 'p', 5, 1);
            for (int other = 0; other < 3; other++) {
                Check.due("history " + other, x.forget(other), other == history ? 1 : 0);
            }
        }
    }

    @Told(promise = 25, value = "- `kind`: 'p', 'r', 's', 'a' or 'x'")
    static void stepOfEachKind() {
        Spanwarden x = new Spanwarden();
        for (char kind : "prsax".toCharArray()) {
            x.step(0, kind, 1, 2);
        }
        stepsAre("each", x, 0, 'p', 1, 2, 'r', 1, 2, 's', 1, 2, 'a', 1, 2, 'x', 1, 2);
    }

    @Told(promise = 25, value = {"- `key`: the key", "- `number`: the number"})
    static void stepOfAnyNumbers() {
        Spanwarden x = new Spanwarden();
        x.step(2, 'p', Check.LEAST, Check.MOST);
        x.step(2, 's', Check.MOST, Check.LEAST);
        Check.due("both change the map", x.play(2, 0), 2);
        Check.entries("any", x, 0, Check.LEAST, Check.MOST, Check.MOST, Check.LEAST);
    }

    @Told(promise = 25, value = "Returns how many steps it has then")
    static void stepTellsHowMany() {
        Spanwarden x = new Spanwarden();
        for (int steps = 1; steps <= 30; steps++) {
            // The same step again counts again.
            Check.due("step", x.step(2, 'r', 7, 7), steps);
        }
        Check.due("another one begins anew", x.step(1, 'r', 7, 7), 1);
        x.forget(2);
        Check.due("forgotten", x.step(2, 'r', 7, 7), 1);
    }

    @Told(promise = 25, value = NO_HISTORY)
    static void stepOfNoHistory() {
        Spanwarden x = Made.busy();
        Check.refusedOutside(3, x, history -> x.step(history, 'p', 1, 1));
    }

    @Told(promise = 25, value = "Throws `IllegalArgumentException` if there is no such kind")
    static void stepOfNoKind() {
        Spanwarden x = Made.busy();
        for (char kind : Check.lettersBut("prsax")) {
            Check.refused("kind " + (int) kind, x, Check.ARGUMENT, () -> x.step(0, kind, 1, 1));
        }
    }

    @Told(promise = 25, value = "Throws `IllegalStateException` if it has 30")
    static void stepOfAFullHistory() {
        for (int history = 0; history < 3; history++) {
            int full = history;
            Spanwarden x = new Spanwarden();
            addSteps(x, history, 0, 30);
            for (char kind : "prsax".toCharArray()) {
                Check.refused("a 31st", x, Check.STATE, () -> x.step(full, kind, 0, 0));
            }
            Check.due("another one has room", x.step((history + 1) % 3, 'p', 0, 0), 1);
            Check.due("it has 30", x.forget(history), 30);
        }
    }

    @Told(promise = 26, value = {"Takes all steps of a history away", "Returns how many it had"})
    static void forgetTellsHowMany() {
        Spanwarden x = Made.threeHistories();
        Check.due("it had", x.forget(1), 2);
        Check.due("again", x.forget(1), 0);
        Check.due("nothing is left to play", x.play(1, 0), 0);
        Check.entries("nothing was played", x, 0);
        addSteps(x, 1, 0, 30);
        Check.due("full", x.forget(1), 30);
        Check.due("steps count anew", x.step(1, 'p', 3, 1), 1);
    }

    @Told(promise = 26, value = HISTORY)
    static void forgetEachHistory() {
        for (int history = 0; history < 3; history++) {
            Spanwarden x = Made.threeHistories();
            Check.due("history " + history, x.forget(history), history + 1);
            Check.due("the others stay", x.forget(0) + x.forget(1) + x.forget(2), 5 - history);
        }
    }

    @Told(promise = 26, value = NO_HISTORY)
    static void forgetNoHistory() {
        Spanwarden x = Made.busy();
        Check.refusedOutside(3, x, x::forget);
    }

    @Told(promise = 27, value = "Plays a history on a map")
    static void playChangesTheMapAndNotTheHistory() {
        Spanwarden x = Made.with(1, 1, 10, 2, 20);
        x.step(2, 's', 1, 5);
        x.step(2, 'r', 2, 0);
        x.step(2, 'a', 3, 30);
        x.play(2, 1);
        Check.entries("played", x, 1, 1, 15, 3, 30);
        x.play(2, 1);
        Check.entries("played again", x, 1, 1, 20, 3, 30);
        stepsAre("it stays", x, 2, 's', 1, 5, 'r', 2, 0, 'a', 3, 30);
    }

    @Told(promise = 27, value = {HISTORY, "- `map`: 0 to 2"})
    static void playEachOnEach() {
        for (int history = 0; history < 3; history++) {
            for (int map = 0; map < 3; map++) {
                Spanwarden x = Made.threeHistories();
                Check.due("play", x.play(history, map), history + 1);
                Check.due("on " + map, x.size(map), history + 1);
                Check.due("alone", x.size(0) + x.size(1) + x.size(2), history + 1);
            }
        }
    }

    /** How many of the steps change something; there is one step, on a map with 1, 10. */
    private static int changes(char kind, int key, int number) {
        Spanwarden x = Made.with(0, 1, 10);
        x.step(0, kind, key, number);
        return x.play(0, 0);
    }

    private static final String COUNTS =
            "Returns how many of its steps left the map unlike what it was just ahead of that step";

    @Told(promise = 27, value = COUNTS)
    static void playCountsStepsThatChange() {
        Check.due("p, another value", changes('p', 1, 11), 1);
        Check.due("p, a new key", changes('p', 2, 10), 1);
        Check.due("r", changes('r', 1, 10), 1);
        Check.due("s", changes('s', 1, 1), 1);
        Check.due("s, a new key", changes('s', 2, 5), 1);
        Check.due("s, a new key with 0", changes('s', 2, 0), 1);
        Check.due("a, a new key", changes('a', 2, 5), 1);
        Check.due("x, another value", changes('x', 1, 11), 1);
    }

    @Told(promise = 27, value = COUNTS)
    static void playDoesNotCountStepsThatChangeNothing() {
        Check.due("p, the same value", changes('p', 1, 10), 0);
        Check.due("r, no key", changes('r', 2, 10), 0);
        Check.due("s of 0", changes('s', 1, 0), 0);
        Check.due("a, a key that is there", changes('a', 1, 11), 0);
        Check.due("x, no key", changes('x', 2, 10), 0);
        Check.due("x, the same value", changes('x', 1, 10), 0);
        Check.due("no steps", new Spanwarden().play(0, 0), 0);
    }

    @Told(promise = 27, value = COUNTS)
    static void playDoesNotCountTakingAwayWhatIsGone() {
        Spanwarden x = Made.with(0, 1, 10, 2, 20);
        x.step(0, 'r', 2, 0);
        x.step(0, 'r', 2, 0);
        Check.due("the greatest key", x.play(0, 0), 1);
        Check.due("again", x.play(0, 0), 0);
        Check.entries("the other one stays", x, 0, 1, 10);
    }

    @Told(promise = 27, value = COUNTS)
    static void playCountsStepsThatUndoOneAnother() {
        Spanwarden x = Made.with(0, 1, 10);
        x.step(0, 's', 1, Check.LEAST);
        x.step(0, 's', 1, Check.LEAST);
        x.step(0, 'r', 1, 0);
        x.step(0, 'p', 1, 10);
        x.step(0, 'p', 1, 10);
        Check.due("four of five", x.play(0, 0), 4);
        Check.entries("as it was at first", x, 0, 1, 10);
    }

    @Told(promise = 27, value = NO_HISTORY_OR_MAP)
    static void playOfNoHistoryOrMap() {
        Spanwarden x = Made.busy();
        Check.refusedOutside(3, x, history -> x.play(history, 0));
        Check.refusedOutside(3, x, map -> x.play(0, map));
        Check.refusedOutside(3, x, place -> x.play(place, place));
    }

    private static final String NO_ROOM_TO_PLAY =
            "Throws `IllegalStateException` if the entries, and the unlike keys of the history that"
                    + " the map has not, are more than 60 together";

    @Told(promise = 27, value = NO_ROOM_TO_PLAY)
    static void playUpTo60Together() {
        Spanwarden x = new Spanwarden();
        for (int key = 0; key < 30; key++) {
            x.put(0, 1000 + key, 0);
        }
        addSteps(x, 0, 0, 30);
        Check.due("just 60", x.play(0, 0), 30);
        Check.due("entries", x.size(0), 60);
        Check.due("again", x.play(0, 0), 0);
    }

    @Told(promise = 27, value = NO_ROOM_TO_PLAY)
    static void playWith61Together() {
        Spanwarden x = new Spanwarden();
        for (int key = 0; key < 31; key++) {
            x.put(0, 1000 + key, 0);
        }
        addSteps(x, 0, 0, 30);
        Check.refused("61", x, Check.STATE, () -> x.play(0, 0));
        x.put(0, 29, 0);
        Check.due("a key that both have counts once", x.size(0), 32);
        Check.refused("still 61", x, Check.STATE, () -> x.play(0, 0));
        x.remove(0, 1000);
        Check.due("just 60", x.play(0, 0), 30);
    }

    @Told(promise = 27, value = NO_ROOM_TO_PLAY)
    static void playOnAFullMap() {
        Spanwarden x = Made.full(0);
        Check.due("no steps", x.play(0, 0), 0);
        x.step(0, 'p', 118, 1);
        x.step(0, 's', 0, 1);
        Check.due("keys that are there", x.play(0, 0), 2);
        x.step(1, 'p', 119, 1);
        Check.refused("one that is not", x, Check.STATE, () -> x.play(1, 0));
    }

    @Told(promise = 27, value = NO_ROOM_TO_PLAY)
    static void playCountsKeysOfStepsThatAddNone() {
        for (char kind : "rx".toCharArray()) {
            Spanwarden x = Made.full(0);
            x.step(0, kind, 1, 0);
            Check.refused("of " + kind, x, Check.STATE, () -> x.play(0, 0));
            x.remove(0, 0);
            Check.due("there is room", x.play(0, 0), 0);
        }
    }

    @Told(promise = 27, value = NO_ROOM_TO_PLAY)
    static void playDoesNotCountRoomThatIsMadeOnTheWay() {
        Spanwarden x = Made.full(0);
        x.step(0, 'r', 0, 0);
        x.step(0, 'p', 1, 0);
        Check.refused("one goes, one comes", x, Check.STATE, () -> x.play(0, 0));
        x.step(1, 'p', 1, 0);
        x.step(1, 'r', 1, 0);
        Check.refused("one comes and goes", x, Check.STATE, () -> x.play(1, 0));
    }

    @Told(promise = 27, value = NO_ROOM_TO_PLAY)
    static void playCountsUnlikeKeysOnce() {
        Spanwarden x = Made.full(0);
        x.remove(0, 50);
        for (char kind : "pxsar".toCharArray()) {
            x.step(0, kind, 51, 1);
        }
        Check.due("one key in five steps", x.play(0, 0), 3);
        x.step(0, 'r', 53, 1);
        Check.refused("and another one", x, Check.STATE, () -> x.play(0, 0));
    }

    @Told(promise = 28, value = "Plays two histories, put into one another, on a map")
    static void playBothByTurns() {
        Spanwarden x = new Spanwarden();
        x.step(0, 'p', 1, 100);
        x.step(0, 's', 1, 20);
        x.step(1, 'p', 1, 7);
        x.step(1, 's', 1, 3);
        int[][] due = {
            // turns, value
            {0b1100, 10},
            {0b1010, 30},
            {0b0110, 30},
            {0b1001, 123},
            {0b0101, 123},
            {0b0011, 120},
        };
        for (int[] row : due) {
            x.drain(0, false);
            x.playBoth(0, 1, row[0], 0);
            Check.entries(Integer.toBinaryString(row[0]), x, 0, 1, row[1]);
        }
        stepsAre("the histories stay", x, 1, 'p', 1, 7, 's', 1, 3);
    }

    @Told(promise = 28, value = "Plays two histories, put into one another, on a map")
    static void playBothOfOneWithItself() {
        Spanwarden x = new Spanwarden();
        x.step(2, 's', 4, 1);
        x.step(2, 's', 5, 2);
        x.playBoth(2, 2, 0b0110, 2);
        Check.entries("each step twice", x, 2, 4, 2, 5, 4);
        x.step(1, 'p', 1, 1);
        x.step(1, 's', 1, 10);
        x.playBoth(1, 1, 0b0010, 0);
        Check.entries("one, other, and the rest", x, 0, 1, 21);
    }

    @Told(promise = 28, value = {"- `one`: 0 to 2", "- `other`: 0 to 2", "- `map`: 0 to 2"})
    static void playBothOfEachOnEach() {
        for (int one = 0; one < 3; one++) {
            for (int other = 0; other < 3; other++) {
                for (int map = 0; map < 3; map++) {
                    Spanwarden x = new Spanwarden();
                    for (int history = 0; history < 3; history++) {
                        x.step(history, 's', history, 1);
                    }
                    x.playBoth(one, other, 0, map);
                    Check.due("the one", x.value(map, one), one == other ? 2 : 1);
                    Check.due("the other one", x.value(map, other), one == other ? 2 : 1);
                    Check.due("alone", x.size(0) + x.size(1) + x.size(2), one == other ? 1 : 2);
                }
            }
        }
    }

    @Told(promise = 28, value = "- `turns`: the row of bits")
    static void playBothByBits() {
        // Each turn is told by its own bit: history 1 has one step, which is last to set the key
        // or comes ahead of the step of history 0 that sets it again.
        for (int bit = 0; bit < 31; bit++) {
            Spanwarden x = new Spanwarden();
            for (int i = 0; i < 30; i++) {
                x.step(0, 's', 1, 1);
            }
            x.step(1, 'p', 1, 0);
            x.playBoth(0, 1, 1 << bit, 0);
            Check.due("bit " + bit, x.value(0, 1), 30 - bit);
        }
    }

    @Told(promise = 28, value = "Returns how many entries the map has then")
    static void playBothTellsHowMany() {
        Spanwarden x = Made.with(0, 1, 10, 2, 20, 3, 30);
        x.step(0, 'r', 1, 0);
        x.step(0, 'r', 9, 0);
        x.step(1, 'x', 2, 0);
        Check.due("one goes", x.playBoth(0, 1, 0, 0), 2);
        Check.due("none goes", x.playBoth(1, 0, 0, 0), 2);
        Check.due("no steps", x.playBoth(2, 2, 0, 0), 2);
        Check.due("no entries", x.playBoth(0, 1, 0, 1), 0);
    }

    @Told(promise = 28, value = NO_HISTORY_FOR_EITHER_OR_MAP)
    static void playBothOfNoHistoryOrMap() {
        Spanwarden x = Made.busy();
        Check.refusedOutside(3, x, one -> x.playBoth(one, 1, 0, 0));
        Check.refusedOutside(3, x, other -> x.playBoth(0, other, 0, 0));
        Check.refusedOutside(3, x, map -> x.playBoth(0, 1, 0, map));
        Check.refusedOutside(3, x, place -> x.playBoth(place, place, 0, place));
    }

    private static final String NO_ROOM_TO_PLAY_BOTH =
            "Throws `IllegalStateException` if the entries, and the unlike keys of both that the"
                    + " map has not, are more than 60 together";

    @Told(promise = 28, value = NO_ROOM_TO_PLAY_BOTH)
    static void playBothUpTo60Together() {
        Spanwarden x = new Spanwarden();
        addSteps(x, 0, 0, 30);
        addSteps(x, 1, 30, 30);
        Check.due("60 keys", x.playBoth(0, 1, 12345, 0), 60);
        Check.due("60 keys that are there", x.playBoth(1, 0, 54321, 0), 60);
        x.put(1, 59, 1);
        Check.due("59 keys and one that is there", x.playBoth(0, 1, 0, 1), 60);
    }

    @Told(promise = 28, value = NO_ROOM_TO_PLAY_BOTH)
    static void playBothWith61Together() {
        Spanwarden x = Made.with(0, 60, 1);
        addSteps(x, 0, 0, 30);
        addSteps(x, 1, 30, 30);
        Check.refused("61", x, Check.STATE, () -> x.playBoth(0, 1, 0, 0));
        Check.refused("the other way", x, Check.STATE, () -> x.playBoth(1, 0, -1, 0));
        Check.due("one of them fits", x.playBoth(1, 1, 0, 0), 31);
    }

    @Told(promise = 28, value = NO_ROOM_TO_PLAY_BOTH)
    static void playBothOnAFullMap() {
        Spanwarden x = Made.full(0);
        Check.due("no steps", x.playBoth(0, 1, 0, 0), 60);
        x.step(0, 'p', 0, 1);
        x.step(1, 'r', 1, 1);
        Check.refused("a key of the other one", x, Check.STATE, () -> x.playBoth(0, 1, 0, 0));
        Check.refused("a key of the one", x, Check.STATE, () -> x.playBoth(1, 0, 0, 0));
        Check.due("keys that are there", x.playBoth(0, 0, 0, 0), 60);
    }

    @Told(promise = 28, value = NO_ROOM_TO_PLAY_BOTH)
    static void playBothCountsUnlikeKeysOnce() {
        Spanwarden x = Made.full(0);
        x.remove(0, 0);
        x.step(0, 'p', 1, 1);
        x.step(1, 'x', 1, 2);
        Check.due("a key that both have", x.playBoth(0, 1, 0b10, 0), 60);
        Check.due("its value", x.value(0, 1), 2);
        x.remove(0, 1);
        x.step(1, 'r', 3, 0);
        Check.refused("and another one", x, Check.STATE, () -> x.playBoth(0, 1, 0, 0));
    }

    @Told(
            promise = 29,
            value = {"Returns how many keys two histories have in common", "Returns how many"})
    static void meetTellsHowMany() {
        Spanwarden x = new Spanwarden();
        for (int key : new int[] {4, 4, Check.LEAST, 7, 4, 9}) {
            x.step(0, 'p', key, 1);
        }
        for (int key : new int[] {7, 5, 4, 4, Check.MOST}) {
            x.step(1, 'r', key, 2);
        }
        Check.due("each key once", x.meet(0, 1), 2);
        Check.due("both ways", x.meet(1, 0), 2);
        Check.due("with itself", x.meet(0, 0), 4);
        x.step(1, 'x', Check.LEAST, 3);
        Check.due("the least key", x.meet(0, 1), 3);
    }

    @Told(promise = 29, value = "Returns how many")
    static void meetOfEmptyAndFullOnes() {
        Spanwarden x = new Spanwarden();
        Check.due("empty ones", x.meet(0, 1), 0);
        addSteps(x, 0, 0, 30);
        Check.due("with an empty one", x.meet(0, 1), 0);
        addSteps(x, 1, 0, 30);
        Check.due("all", x.meet(0, 1), 30);
        addSteps(x, 2, 29, 30);
        Check.due("one", x.meet(0, 2), 1);
        x.forget(2);
        addSteps(x, 2, 30, 30);
        Check.due("none", x.meet(2, 0), 0);
    }

    @Told(promise = 29, value = {"- `one`: 0 to 2", "- `other`: 0 to 2"})
    static void meetOfEachTwo() {
        Spanwarden x = Made.threeHistories();
        int[][] due = {{1, 0, 1}, {0, 2, 1}, {1, 1, 3}};
        for (int one = 0; one < 3; one++) {
            for (int other = 0; other < 3; other++) {
                Check.due(one + " and " + other, x.meet(one, other), due[one][other]);
            }
        }
    }

    @Told(
            promise = 29,
            value = "Throws `IndexOutOfBoundsException` if there is no such history, for either")
    static void meetOfNoHistory() {
        Spanwarden x = Made.busy();
        Check.refusedOutside(3, x, one -> x.meet(one, 0));
        Check.refusedOutside(3, x, other -> x.meet(0, other));
        Check.refusedOutside(3, x, place -> x.meet(place, place));
    }

    @Told(promise = 30, value = "Lets a history become the opposite of one, for a map")
    static void oppositeTakesBack() {
        Spanwarden x = Made.with(0, 1, 10, 5, 50);
        x.step(0, 's', 5, 1);
        x.step(0, 'r', 1, 8);
        x.step(0, 'a', -7, 4);
        x.step(1, 'p', 99, 99);
        x.opposite(0, 0, 1);
        x.play(0, 0);
        Check.entries("played", x, 0, -7, 4, 5, 51);
        x.play(1, 0);
        Check.entries("taken back", x, 0, 1, 10, 5, 50);
        stepsAre("in place of what it was", x, 1, 'r', -7, 0, 'p', 1, 10, 'p', 5, 50);
    }

    @Told(promise = 30, value = "Lets a history become the opposite of one, for a map")
    static void oppositeLeavesTheOneAndTheMap() {
        Spanwarden x = Made.with(0, 1, 10);
        x.step(0, 's', 1, 5);
        x.opposite(0, 0, 2);
        Check.entries("the map", x, 0, 1, 10);
        stepsAre("the one", x, 0, 's', 1, 5);
    }

    @Told(promise = 30, value = "- `into`: 0 to 2, the one that it becomes")
    static void oppositeOfItself() {
        Spanwarden x = Made.with(1, 2, 22);
        x.step(2, 'p', 9, 1);
        x.step(2, 'p', 2, 1);
        x.step(2, 'p', 9, 2);
        Check.due("into itself", x.opposite(2, 1, 2), 2);
        stepsAre("by rising keys", x, 2, 'p', 2, 22, 'r', 9, 0);
    }

    @Told(
            promise = 30,
            value = {
                "- `history`: 0 to 2, the one",
                "- `map`: 0 to 2",
                "- `into`: 0 to 2, the one that it becomes"
            })
    static void oppositeOfEachIntoEach() {
        for (int history = 0; history < 3; history++) {
            for (int map = 0; map < 3; map++) {
                for (int into = 0; into < 3; into++) {
                    Spanwarden x = Made.threeMaps();
                    x.step(history, 's', x.end(map, true), 7);
                    x.opposite(history, map, into);
                    int[] due = {'p', x.end(map, true), x.value(map, x.end(map, true))};
                    stepsAre(history + " for " + map + " into " + into, x, into, due);
                }
            }
        }
    }

    @Told(promise = 30, value = "Returns how many steps it has")
    static void oppositeTellsHowMany() {
        Spanwarden x = new Spanwarden();
        x.step(1, 'p', 1, 1);
        Check.due("of an empty one", x.opposite(0, 0, 1), 0);
        Check.due("it is empty then", x.forget(1), 0);
        addSteps(x, 0, 100, 30);
        Check.due("30 keys", x.opposite(0, 0, 1), 30);
        Check.due("30 keys, into itself", x.opposite(0, 0, 0), 30);
        Check.due("it has 30", x.forget(0), 30);
        for (int steps = 0; steps < 30; steps++) {
            x.step(0, 's', 5, steps);
        }
        Check.due("one key in 30 steps", x.opposite(0, 0, 1), 1);
        Check.due("none of the old steps are left", x.forget(1), 1);
    }

    @Told(promise = 30, value = NO_HISTORY_FOR_EITHER_OR_MAP)
    static void oppositeOfNoHistoryOrMap() {
        Spanwarden x = Made.busy();
        Check.refusedOutside(3, x, history -> x.opposite(history, 0, 1));
        Check.refusedOutside(3, x, map -> x.opposite(0, map, 1));
        Check.refusedOutside(3, x, into -> x.opposite(0, 0, into));
        Check.refusedOutside(3, x, place -> x.opposite(place, place, place));
    }

    @Told(
            promise = 31,
            value = {"Puts a map together with another one, which changes", "the one stays"})
    static void combineChangesTheOtherOneAlone() {
        for (char how : "sgl".toCharArray()) {
            Spanwarden x = Made.with(0, 1, 5, 2, 6);
            Made.put(x, 1, 2, 100, 3, 101);
            int both = how == 's' ? 106 : how == 'g' ? 100 : 6;
            x.combine(0, 1, how);
            Check.entries("the other one", x, 1, 1, 5, 2, both, 3, 101);
            Check.entries("the one", x, 0, 1, 5, 2, 6);
            Check.entries("the third one", x, 2);
        }
    }

    @Told(promise = 31, value = {"- `map`: 0 to 2", "- `into`: 0 to 2, the other one"})
    static void combineEachWithEach() {
        for (int map = 0; map < 3; map++) {
            for (int into = 0; into < 3; into++) {
                Spanwarden x = Made.threeMaps();
                if (map != into) {
                    int due = x.size(map) + x.size(into);
                    Check.due(map + " into " + into, x.combine(map, into, 's'), due);
                    Check.due("it has them", x.size(into), due);
                    Check.due("the rest", x.size(0) + x.size(1) + x.size(2), 6 + x.size(map));
                }
            }
        }
    }

    @Told(promise = 31, value = "- `how`: 's', 'g' or 'l'")
    static void combineByEachWay() {
        int[] numbers = {Check.LEAST, -1, 0, 1, Check.MOST};
        for (int one : numbers) {
            for (int other : numbers) {
                int[] due = {one + other, Math.max(one, other), Math.min(one, other)};
                for (int way = 0; way < 3; way++) {
                    Spanwarden x = Made.with(2, 7, one);
                    x.put(0, 7, other);
                    x.combine(2, 0, "sgl".charAt(way));
                    Check.entries("sgl".charAt(way) + " of " + one, x, 0, 7, due[way]);
                }
            }
        }
    }

    @Told(promise = 31, value = "Returns how many entries the other one has then")
    static void combineTellsHowMany() {
        Spanwarden x = Made.with(0, 1, 5, 2, 6);
        Made.put(x, 1, 2, 100, 3, 101);
        Check.due("with an empty one", x.combine(2, 1, 's'), 2);
        Check.due("one key is in both", x.combine(0, 1, 's'), 3);
        Check.due("again", x.combine(0, 1, 's'), 3);
        Check.due("with what is empty", x.combine(0, 2, 'l'), 2);
        Check.holds("is a copy", x.isLike(0, 2));
        x.drain(0, false);
        x.drain(2, false);
        Check.due("both are empty", x.combine(0, 2, 'g'), 0);
    }

    @Told(
            promise = 31,
            value = "Throws `IndexOutOfBoundsException` if there is no such map, for either")
    static void combineOfNoMap() {
        Spanwarden x = Made.busy();
        for (char how : "sgl".toCharArray()) {
            Check.refusedOutside(3, x, map -> x.combine(map, 0, how));
            Check.refusedOutside(3, x, into -> x.combine(0, into, how));
            Check.refusedOutside(3, x, map -> x.combine(map, map, how));
        }
    }

    private static final String NO_WAY_OR_THE_SAME =
            "Throws `IllegalArgumentException` if there is no such way, or both are the same";

    @Told(promise = 31, value = NO_WAY_OR_THE_SAME)
    static void combineByNoWay() {
        Spanwarden x = Made.busy();
        for (char how : Check.lettersBut("sgl")) {
            Check.refused("way " + (int) how, x, Check.ARGUMENT, () -> x.combine(0, 1, how));
        }
        Check.refused("empty ones", x, Check.ARGUMENT, () -> x.combine(2, 2, 'x'));
    }

    @Told(promise = 31, value = NO_WAY_OR_THE_SAME)
    static void combineWithItself() {
        Spanwarden x = Made.busy();
        for (int map = 0; map < 3; map++) {
            int same = map;
            for (char how : "sgl".toCharArray()) {
                Check.refused("the same", x, Check.ARGUMENT, () -> x.combine(same, same, how));
            }
        }
    }

    private static final String NO_ROOM_TO_COMBINE =
            "Throws `IllegalStateException` if it would have more than 60";

    @Told(promise = 31, value = NO_ROOM_TO_COMBINE)
    static void combineUpTo60() {
        Spanwarden x = Made.full(0);
        Made.put(x, 1, 0, 100, 118, 100);
        Check.due("a full one comes", x.combine(0, 1, 'g'), 60);
        Check.due("a full one to a full one", x.combine(1, 0, 's'), 60);
        Check.due("sums", x.value(0, 118), 159);
        Check.due("an empty one comes to a full one", x.combine(2, 0, 's'), 60);
        Check.due("a full one comes to an empty one", x.combine(0, 2, 's'), 60);
    }

    @Told(promise = 31, value = NO_ROOM_TO_COMBINE)
    static void combineWith61() {
        Spanwarden x = Made.full(0);
        // The first entry would have room: it must not come alone.
        Made.put(x, 1, 0, 100, 1, 100);
        for (char how : "sgl".toCharArray()) {
            Check.refused("to a full one", x, Check.STATE, () -> x.combine(1, 0, how));
            Check.refused("of a full one", x, Check.STATE, () -> x.combine(0, 1, how));
        }
        x.remove(0, 50);
        Check.due("just 60", x.combine(1, 0, 's'), 60);
    }
}
