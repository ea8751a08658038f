import java.lang.reflect.Constructor;

/** Promises 32 to 35. */
public final class WholeTest {
    private static final String MAP = "- `map`: 0 to 2";
    private static final String NO_MAP =
            "Throws `IndexOutOfBoundsException` if there is no such map";

    public static void main(String[] args) throws IllegalAccessException {
        Check.runAll(WholeTest.class);
    }

    @Told(
            promise = 32,
            value = {
                "Returns the share of entries of a map",
                "Returns how many it has divided by 60, both converted to float"
            })
    static void fullShareOfEachCount() {
        Spanwarden x = new Spanwarden();
        Check.due("empty", x.fullShare(0), 0f);
        for (int key = 1; key <= 60; key++) {
            x.put(0, key, 0);
            Check.due("share of " + key, x.fullShare(0), (float) key / 60f);
        }
        Check.due("full", x.fullShare(0), 1f);
        x.drain(0, true);
        Check.due("drained", x.fullShare(0), 0f);
    }

    @Told(
            promise = 32,
            value = "Returns how many it has divided by 60, both converted to float")
    static void fullShareIsAFloat() {
        Spanwarden x = Made.with(0, 1, 1);
        Check.due("a 60th", x.fullShare(0), 0.016666668f);
        Check.holds("no double", (double) x.fullShare(0) != 1.0 / 60.0);
    }

    @Told(promise = 32, value = MAP)
    static void fullShareOfEachMap() {
        Spanwarden x = Made.threeMaps();
        Check.due("map 0", x.fullShare(0), 2f / 60f);
        Check.due("map 1", x.fullShare(1), 3f / 60f);
        Check.due("map 2", x.fullShare(2), 1f / 60f);
    }

    @Told(promise = 32, value = NO_MAP)
    static void fullShareOfNoMap() {
        Spanwarden x = Made.busy();
        Check.refusedOutside(3, x, x::fullShare);
    }

    private static final String MEAN =
            "Returns their sum, a long, divided by how many, both converted to double";

    @Told(promise = 33, value = {"Returns the mean of the keys of a map", MEAN})
    static void meanKeyIsOfKeys() {
        Spanwarden x = Made.with(0, 1, 100, 2, 100, 4, 100);
        Check.due("a third over", x.meanKey(0), 7.0 / 3.0);
        x.remove(0, 4);
        Check.due("what is gone does not count", x.meanKey(0), 1.5);
        Made.put(x, 1, -3, 9, 0, 9);
        Check.due("below 0", x.meanKey(1), -1.5);
        x.put(2, 0, 9);
        Check.due("of 0 alone", x.meanKey(2), 0.0);
        x.put(2, 1, 9);
        x.put(2, -1, 9);
        Check.due("of none in sum", x.meanKey(2), 0.0);
    }

    @Told(promise = 33, value = MEAN)
    static void meanKeyDoesNotGoRound() {
        Spanwarden x = Made.with(0, Check.MOST, 0, Check.MOST - 1, 0);
        Check.due("above the greatest", x.meanKey(0), 2147483646.5);
        Made.put(x, 1, Check.LEAST, 0, Check.LEAST + 1, 0, Check.LEAST + 2, 0);
        Check.due("below the least", x.meanKey(1), -2147483647.0);
        Made.put(x, 2, Check.LEAST, 0, Check.MOST, 0);
        Check.due("both ends", x.meanKey(2), -0.5);
    }

    @Told(promise = 33, value = MEAN)
    static void meanKeyOfAFullMap() {
        Spanwarden x = new Spanwarden();
        for (int key = 0; key < 60; key++) {
            x.put(0, Check.MOST - key, 0);
        }
        Check.due("60 of the greatest", x.meanKey(0), (double) (60L * Check.MOST - 1770) / 60.0);
        Check.due("60 even ones", Made.full(1).meanKey(1), 59.0);
    }

    @Told(promise = 33, value = MAP)
    static void meanKeyOfEachMap() {
        Spanwarden x = Made.threeMaps();
        Check.due("map 0", x.meanKey(0), 3.0);
        Check.due("map 1", x.meanKey(1), 17.0 / 3.0);
        Check.due("map 2", x.meanKey(2), 3.0);
        x.remove(2, 3);
        x.put(2, 8, 0);
        Check.due("map 2", x.meanKey(2), 8.0);
    }

    @Told(promise = 33, value = NO_MAP)
    static void meanKeyOfNoMap() {
        Spanwarden x = Made.busy();
        Check.refusedOutside(3, x, x::meanKey);
    }

    @Told(promise = 33, value = "Throws `ArithmeticException` if it has no entries")
    static void meanKeyOfNoEntries() {
        Spanwarden x = Made.with(0, 1, 10);
        Check.refused("never filled", x, Check.ARITHMETIC, () -> x.meanKey(1));
        x.remove(0, 1);
        Check.refused("emptied", x, Check.ARITHMETIC, () -> x.meanKey(0));
    }

    private static final String SUM_AND_MAPS =
            "Returns 7 at first, then 31 times itself plus each of: for each map how many entries,"
                    + " and of each, by rising keys, the key and the value";

    private static long sumOf(long... numbers) {
        long sum = 7;
        for (long number : numbers) {
            sum = 31 * sum + number;
        }
        return sum;
    }

    @Told(promise = 34, value = "Returns a sum over all")
    static void checksumOfAll() {
        Spanwarden x = Made.with(0, 9, 90, -2, 20, 4, Check.LEAST);
        x.put(2, 1, 1);
        x.open(1, 0, -2, false, 9, true);
        x.open(2, 1, 0, true, 0, true);
        x.step(1, 's', 5, -6);
        x.step(1, 'x', 4, Check.MOST);
        long due =
                sumOf(
                        3, -2, 20, 4, Check.LEAST, 9, 90, 0, 1, 1, 1,
                        -1, 2, 4, 9, 0, -1,
                        0, 2, 's', 5, -6, 'x', 4, Check.MOST, 0);
        Check.due("all", x.checksum(), due);
        Check.due("again", x.checksum(), due);
        x.poll(2, false);
        x.drain(2, false);
        x.put(2, 1, 1);
        Check.due("what was polled is not in it", x.checksum(), due);
    }

    @Told(promise = 34, value = SUM_AND_MAPS)
    static void checksumOfANewObject() {
        Check.due("new", new Spanwarden().checksum(), sumOf(0, 0, 0, -1, -1, -1, -1, 0, 0, 0));
    }

    @Told(promise = 34, value = SUM_AND_MAPS)
    static void checksumOfMaps() {
        Check.due(
                "each",
                Made.threeMaps().checksum(),
                sumOf(2, 1, 10, 5, 50, 3, 2, 20, 6, 60, 9, 90, 1, 3, 30, -1, -1, -1, -1, 0, 0, 0));
    }

    private static final String VIEWS =
            "for each view how many entries it has, -1 if it is not open, and their keys, rising";

    @Told(promise = 34, value = VIEWS)
    static void checksumOfViews() {
        Spanwarden x = Made.with(0, 1, 10, 2, 20, 3, 30);
        x.open(0, 0, 2, true, 3, true);
        x.open(1, 0, 1, true, 3, false);
        x.open(3, 0, 3, true, 9, true);
        Check.due(
                "of three",
                x.checksum(),
                sumOf(3, 1, 10, 2, 20, 3, 30, 0, 0, 2, 2, 3, 2, 1, 2, -1, 1, 3, 0, 0, 0));
    }

    @Told(promise = 34, value = VIEWS)
    static void checksumOfViewsWithoutEntries() {
        Spanwarden x = Made.with(0, 1, 10);
        x.open(0, 0, 1, false, 1, false);
        x.open(1, 0, 2, true, 3, true);
        x.open(2, 1, 0, true, 9, true);
        Check.due("of none", x.checksum(), sumOf(1, 1, 10, 0, 0, 0, 0, 0, -1, 0, 0, 0));
    }

    @Told(
            promise = 34,
            value =
                    "for each history how many steps, and of each the code of its kind, the key and"
                            + " the number")
    static void checksumOfHistories() {
        Spanwarden x = new Spanwarden();
        x.step(0, 'p', 1, 2);
        x.step(0, 'r', 3, 4);
        x.step(1, 's', Check.LEAST, Check.MOST);
        x.step(2, 'a', 5, 6);
        x.step(2, 'x', 0, -1);
        x.step(2, 'x', 0, -1);
        Check.due(
                "of three",
                x.checksum(),
                sumOf(
                        0, 0, 0, -1, -1, -1, -1, 2, 112, 1, 2, 114, 3, 4, 1, 115, Check.LEAST,
                        Check.MOST, 3, 97, 5, 6, 120, 0, -1, 120, 0, -1));
    }

    @Told(promise = 34, value = "a long that goes round")
    static void checksumGoesRound() {
        // 13 numbers and more are more than a long takes in: 7 * 31^13 is above 2^63.
        Spanwarden x = Made.with(0, Check.MOST, Check.MOST);
        x.open(0, 0, Check.MOST, true, Check.MOST, true);
        Check.due(
                "round",
                x.checksum(),
                sumOf(1, Check.MOST, Check.MOST, 0, 0, 1, Check.MOST, -1, -1, -1, 0, 0, 0));
        Spanwarden y = Made.with(0, Check.LEAST, Check.LEAST);
        Check.due(
                "below 0",
                y.checksum(),
                sumOf(1, Check.LEAST, Check.LEAST, 0, 0, -1, -1, -1, -1, 0, 0, 0));
    }

    private static final String NEAR_KEYS =
            "Checks the theorem for what there is: near keys of all keys, and of numbers beside"
                    + " them";
    private static final String ALL_IS_SO = "Returns whether all of this is so";

    @Told(promise = 35, value = ALL_IS_SO)
    static void isSoundAtFirst() {
        Check.holds("new", new Spanwarden().isSound());
    }

    @Told(promise = 35, value = ALL_IS_SO)
    static void isSoundChangesNothing() {
        Spanwarden x = Made.busy();
        String before = State.of(x);
        Check.holds("sound", x.isSound());
        Check.holds("again", x.isSound());
        Check.holds("nothing is changed", before.equals(State.of(x)));
    }

    @Told(promise = 35, value = ALL_IS_SO)
    static void isSoundWhenAllIsFull() {
        Spanwarden x = new Spanwarden();
        for (int key = 0; key < 60; key++) {
            x.put(0, key, key * 1_000_003);
            x.put(1, 100 + key, key * -77_777_777);
            x.put(2, 30 + key, key);
        }
        for (int key = 0; key < 30; key++) {
            x.step(0, "prsax".charAt(key % 5), 200 + key, key);
            x.step(1, "prsax".charAt(key % 5), 300 + key, key);
            x.step(2, "sxpra".charAt(key % 5), key, key);
        }
        String before = State.of(x);
        Check.holds("sound", x.isSound());
        Check.holds("nothing is changed", before.equals(State.of(x)));
    }

    @Told(promise = 35, value = NEAR_KEYS)
    static void isSoundWithKeysAtTheEndsOfAllNumbers() {
        Spanwarden x = Made.with(0, Check.LEAST, 5, Check.MOST, 6, 0, 7);
        Made.put(x, 1, Check.LEAST, 5);
        Made.put(x, 2, Check.MOST, 5, Check.MOST - 1, 4);
        x.open(0, 0, Check.LEAST, false, Check.MOST, true);
        Check.holds("sound", x.isSound());
    }

    /*
     * Only a state that no call brings about is not sound, so the tests below make one by force:
     * keys that are out of order, and maps of more than 60 entries, to which not all can come.
     */

    private static int[] keysOf(Spanwarden x, int map) {
        return (int[]) State.at(x, "maps", map, "keys");
    }

    @Told(promise = 35, value = NEAR_KEYS)
    static void isSoundSeesKeysOutOfOrder() {
        for (int map = 0; map < 3; map++) {
            Spanwarden x = Made.with(map, 10, 5, 20, 6, 30, 7);
            int[] keys = keysOf(x, map);
            int[][] wrong = {{20, 20, 30}, {30, 20, 40}, {10, 30, 30}, {10, 40, 30}, {10, 5, 30}};
            for (int[] row : wrong) {
                System.arraycopy(row, 0, keys, 0, 3);
                Check.holds("not sound", !x.isSound());
            }
            System.arraycopy(new int[] {10, 20, 30}, 0, keys, 0, 3);
            Check.holds("sound again", x.isSound());
        }
    }

    @Told(promise = 35, value = NEAR_KEYS)
    static void isSoundSeesKeysOutOfOrderInLikeMaps() {
        // Maps that are all the same come together alike, so that near keys alone are wrong.
        Spanwarden x = new Spanwarden();
        for (int map = 0; map < 3; map++) {
            Made.put(x, map, 10, 5, 20, 6, 30, 7);
        }
        Check.holds("sound", x.isSound());
        for (int map = 0; map < 3; map++) {
            keysOf(x, map)[0] = 25;
        }
        Check.holds("not sound", !x.isSound());
    }

    @Told(promise = 35, value = "views by their spans")
    static void isSoundSeesAViewOfWhatIsOutOfOrder() throws ReflectiveOperationException {
        for (int view = 0; view < 4; view++) {
            Spanwarden x = Made.with(0, 10, 5, 20, 6, 30, 7);
            x.open(view, 0, 5, true, 15, true);
            Check.holds("sound", x.isSound());
            Object map = State.at(x, "maps", 0);
            Constructor<?> maker = map.getClass().getDeclaredConstructor();
            maker.setAccessible(true);
            Object other = maker.newInstance();
            State.set(other, "count", 3);
            System.arraycopy(new int[] {30, 20, 10}, 0, State.at(other, "keys"), 0, 3);
            State.set(State.at(x, "views", view), "source", other);
            Check.holds("not sound", !x.isSound());
            State.set(State.at(x, "views", view), "source", map);
            Check.holds("sound again", x.isSound());
        }
    }

    @Told(promise = 35, value = "what polls tell of copies")
    static void isSoundPollsCopies() {
        Spanwarden x = Made.with(0, 10, 5, 20, 6, 30, 7);
        Check.holds("sound", x.isSound());
        Check.refused("nothing was polled", x, Check.NONE, x::polled);
        Check.entries("all are there", x, 0, 10, 5, 20, 6, 30, 7);
    }

    /** A map of more entries than the document allows: 1000, 1001 and so on. */
    private static Spanwarden overfull(int map, int count) {
        Spanwarden x = Made.with(map, 1000, 0);
        State.set(State.at(x, "maps", map), "count", count);
        for (int place = 0; place < count; place++) {
            keysOf(x, map)[place] = 1000 + place;
        }
        return x;
    }

    private static final String BOTH_WAYS =
            "each two histories without a common key, both ways, on a copy of each map";

    @Told(promise = 35, value = BOTH_WAYS)
    static void isSoundSeesHistoriesThatDoNotFitBothWays() {
        int room = keysOf(new Spanwarden(), 0).length;
        for (int map = 0; map < 3; map++) {
            for (int left = 0; left < 3; left++) {
                // There is room for one key more: that of the history which is played first.
                Spanwarden x = overfull(map, room - 1);
                Check.holds("sound without steps", x.isSound());
                x.step((left + 1) % 3, 'p', 1, 1);
                Check.holds("sound with one step", x.isSound());
                x.step((left + 2) % 3, 'p', 2, 2);
                Check.holds("not sound with two", !x.isSound());
            }
        }
    }

    @Told(promise = 35, value = BOTH_WAYS)
    static void isSoundDoesNotAskHistoriesWithACommonKey() {
        Spanwarden x = Made.with(0, 1, 10);
        x.step(0, 'p', 1, 1);
        x.step(1, 'p', 1, 2);
        x.step(2, 's', 1, 2);
        Check.holds("whose order matters", x.isSound());
    }

    @Told(promise = 35, value = "each history and its opposite")
    static void isSoundSeesAnOppositeThatDoesNotTakeBack() {
        int room = keysOf(new Spanwarden(), 0).length;
        for (int map = 0; map < 3; map++) {
            for (int history = 0; history < 3; history++) {
                // The key that was taken away does not fit until the other one is gone.
                Spanwarden x = overfull(map, room);
                x.step(history, 'r', 1000, 0);
                Check.holds("sound with one step", x.isSound());
                x.step(history, 'p', 5000, 0);
                Check.holds("not sound with two", !x.isSound());
            }
        }
    }

    @Told(promise = 35, value = "maps put together both ways")
    static void isSoundSeesMapsThatDoNotFitTogetherBothWays() {
        int room = keysOf(new Spanwarden(), 0).length;
        for (int map = 0; map < 3; map++) {
            for (int left = 1; left < 3; left++) {
                Spanwarden x = overfull(map, room);
                x.put((map + left) % 3, 1005, 50);
                Check.holds("sound if the key is there", x.isSound());
                x.put((map + left) % 3, 5, 50);
                Check.holds("not sound if it is not", !x.isSound());
            }
        }
    }

    @Told(promise = 35, value = "maps put together both ways")
    static void isSoundOfMapsWithOtherValues() {
        Spanwarden x = Made.with(0, 1, Check.MOST, 2, Check.LEAST, 3, 3);
        Made.put(x, 1, 1, 1, 2, -1, 4, 4);
        Made.put(x, 2, 1, Check.LEAST, 2, Check.MOST, 5, 5);
        Check.holds("sound", x.isSound());
        Check.entries("map 0 stays", x, 0, 1, Check.MOST, 2, Check.LEAST, 3, 3);
        Check.entries("map 1 stays", x, 1, 1, 1, 2, -1, 4, 4);
    }
}
