/** Promises 1 to 14. */
public final class MapsTest {
    public static void main(String[] args) throws IllegalAccessException {
        Check.runAll(MapsTest.class);
    }

    @Told(promise = 1, value = "Creates empty maps, no open views, and histories without steps")
    static void newMapsAreEmpty() {
        Spanwarden x = new Spanwarden();
        for (int map = 0; map < 3; map++) {
            Check.entries("map " + map, x, map);
        }
    }

    @Told(promise = 1, value = "Creates empty maps, no open views, and histories without steps")
    static void newViewsAreNotOpen() {
        Spanwarden x = new Spanwarden();
        for (int view = 0; view < 4; view++) {
            Check.due("view " + view, x.viewSize(view), -1);
        }
    }

    @Told(promise = 1, value = "Creates empty maps, no open views, and histories without steps")
    static void newHistoriesHaveNoSteps() {
        Spanwarden x = new Spanwarden();
        for (int history = 0; history < 3; history++) {
            Check.due("history " + history, x.forget(history), 0);
        }
    }

    @Told(promise = 1, value = "Creates empty maps, no open views, and histories without steps")
    static void newObjectsShareNothing() {
        Spanwarden used = Made.busy();
        Spanwarden x = new Spanwarden();
        Check.holds("apart", State.of(x).equals(State.of(new Spanwarden())));
        Made.put(x, 0, 1, 1);
        Check.due("the used one stays", used.checksum(), Made.busy().checksum());
    }

    @Told(promise = 2, value = "Puts an entry into a map")
    static void putPutsAndReplaces() {
        Spanwarden x = Made.with(0, 5, 50, 1, 10, 3, 30);
        Check.entries("put", x, 0, 1, 10, 3, 30, 5, 50);
        Made.put(x, 0, 1, 11, 5, 51);
        Check.entries("replaced", x, 0, 1, 11, 3, 30, 5, 51);
    }

    @Told(promise = 2, value = "- `map`: 0 to 2")
    static void putInEachMap() {
        for (int map = 0; map < 3; map++) {
            Spanwarden x = Made.with(map, 8, 80);
            for (int other = 0; other < 3; other++) {
                Check.due("size", x.size(other), other == map ? 1 : 0);
            }
        }
    }

    @Told(promise = 2, value = {"- `key`: the key", "- `value`: the value"})
    static void putAnyKeyAndValue() {
        int[] numbers = {Check.LEAST, -1, 0, 1, Check.MOST};
        for (int value : numbers) {
            Spanwarden x = new Spanwarden();
            for (int i = numbers.length - 1; i >= 0; i--) {
                Check.due("put", x.put(0, numbers[i], value), numbers.length - i);
            }
            for (int i = 0; i < numbers.length; i++) {
                Check.due("key", x.keyAt(0, i, false), numbers[i]);
                Check.due("value", x.value(0, numbers[i]), value);
            }
        }
    }

    @Told(promise = 2, value = "Returns how many entries it has then")
    static void putTellsHowMany() {
        Spanwarden x = new Spanwarden();
        for (int key = 1; key <= 60; key++) {
            Check.due("a new key", x.put(1, -key, 0), key);
            Check.due("a key that is there", x.put(1, -key, 1), key);
        }
    }

    @Told(promise = 2, value = "Throws `IndexOutOfBoundsException` if there is no such map")
    static void putInNoMap() {
        Spanwarden x = Made.busy();
        Check.refusedOutside(3, x, map -> x.put(map, 10, 0));
    }

    @Told(
            promise = 2,
            value = "Throws `IllegalStateException` if it has 60, and no such key")
    static void putOfA61stKey() {
        Spanwarden x = Made.full(1);
        for (int key : new int[] {-1, 1, 59, 117, 119, Check.LEAST, Check.MOST}) {
            Check.refused("key " + key, x, Check.STATE, () -> x.put(1, key, 0));
        }
    }

    @Told(
            promise = 2,
            value = "Throws `IllegalStateException` if it has 60, and no such key")
    static void putOfAKeyThatIsThereInAFullMap() {
        Spanwarden x = Made.full(1);
        for (int key : new int[] {0, 60, 118}) {
            Check.due("put", x.put(1, key, -1 - key), 60);
            Check.due("its value", x.value(1, key), -1 - key);
        }
    }

    @Told(
            promise = 2,
            value = "Throws `IllegalStateException` if it has 60, and no such key")
    static void putWhenAFullMapHasRoomAgain() {
        Spanwarden x = Made.full(1);
        x.remove(1, 118);
        Check.due("a greater key", x.put(1, 119, 7), 60);
        Check.refused("full again", x, Check.STATE, () -> x.put(1, 118, 0));
        Check.due("its value", x.value(1, 119), 7);
        Check.due("another map has room", x.put(0, 118, 0), 1);
    }

    @Told(promise = 3, value = {"Returns the value of a key", "Returns the value"})
    static void valueOfAKey() {
        Spanwarden x = Made.with(0, 5, 50, -5, -50, 0, 7);
        Check.due("of 5", x.value(0, 5), 50);
        Check.due("of -5", x.value(0, -5), -50);
        Check.due("of 0", x.value(0, 0), 7);
        x.put(0, 0, 0);
        Check.due("of 0, replaced", x.value(0, 0), 0);
    }

    @Told(promise = 3, value = "- `map`: 0 to 2")
    static void valueInEachMap() {
        Spanwarden x = new Spanwarden();
        for (int map = 0; map < 3; map++) {
            x.put(map, 4, 40 + map);
        }
        for (int map = 0; map < 3; map++) {
            Check.due("map " + map, x.value(map, 4), 40 + map);
        }
    }

    @Told(promise = 3, value = "- `key`: the key")
    static void valueOfTheLeastAndTheGreatestKey() {
        Spanwarden x = Made.with(0, Check.LEAST, 1, Check.MOST, 2);
        Check.due("least", x.value(0, Check.LEAST), 1);
        Check.due("greatest", x.value(0, Check.MOST), 2);
        Check.refused("beside", x, Check.NONE, () -> x.value(0, Check.LEAST + 1));
        Check.refused("beside", x, Check.NONE, () -> x.value(0, Check.MOST - 1));
    }

    @Told(promise = 3, value = "Throws `IndexOutOfBoundsException` if there is no such map")
    static void valueInNoMap() {
        Spanwarden x = Made.busy();
        Check.refusedOutside(3, x, map -> x.value(map, 10));
    }

    @Told(promise = 3, value = "Throws `NoSuchElementException` if it has no such key")
    static void valueOfNoKey() {
        Spanwarden x = Made.full(0);
        for (int key : new int[] {-1, 1, 117, 119, Check.LEAST, Check.MOST}) {
            Check.refused("key " + key, x, Check.NONE, () -> x.value(0, key));
        }
        Check.refused("empty", x, Check.NONE, () -> x.value(1, 0));
    }

    @Told(promise = 3, value = "Throws `NoSuchElementException` if it has no such key")
    static void valueOfAKeyThatIsGone() {
        Spanwarden x = Made.with(0, 1, 10, 2, 20);
        x.remove(0, 2);
        Check.refused("the last one", x, Check.NONE, () -> x.value(0, 2));
        x.remove(0, 1);
        Check.refused("the only one", x, Check.NONE, () -> x.value(0, 1));
    }

    @Told(promise = 4, value = "Takes a key away, if it is there")
    static void removeTakesAway() {
        Spanwarden x = Made.with(0, 1, 10, 2, 20, 3, 30, 4, 40);
        x.remove(0, 2);
        Check.entries("amid", x, 0, 1, 10, 3, 30, 4, 40);
        x.remove(0, 1);
        Check.entries("the first", x, 0, 3, 30, 4, 40);
        x.remove(0, 4);
        Check.entries("the last", x, 0, 3, 30);
        x.remove(0, 3);
        Check.entries("the only one", x, 0);
    }

    @Told(promise = 4, value = "Takes a key away, if it is there")
    static void removeOfNoKeyTakesNothing() {
        Spanwarden x = Made.with(0, 1, 10, 3, 30);
        for (int key : new int[] {0, 2, 4, Check.LEAST, Check.MOST}) {
            Check.due("key " + key, x.remove(0, key), 2);
        }
        Check.entries("all stay", x, 0, 1, 10, 3, 30);
        Check.due("of an empty one", x.remove(1, 1), 0);
    }

    @Told(promise = 4, value = "- `map`: 0 to 2")
    static void removeInEachMap() {
        for (int map = 0; map < 3; map++) {
            Spanwarden x = Made.threeMaps();
            int due = x.size(map) - 1;
            Check.due("map " + map, x.remove(map, x.end(map, true)), due);
            Check.due("the others stay", x.size(0) + x.size(1) + x.size(2), 5);
        }
    }

    @Told(promise = 4, value = "- `key`: the key")
    static void removeTheLeastAndTheGreatestKey() {
        Spanwarden x = Made.with(0, Check.LEAST, 1, 0, 3, Check.MOST, 2);
        Check.due("least", x.remove(0, Check.LEAST), 2);
        Check.due("greatest", x.remove(0, Check.MOST), 1);
        Check.entries("without both", x, 0, 0, 3);
    }

    @Told(promise = 4, value = "Returns how many entries the map has then")
    static void removeTellsHowMany() {
        Spanwarden x = Made.full(2);
        for (int left = 59; left >= 0; left--) {
            Check.due("removed", x.remove(2, 2 * left), left);
            Check.due("again", x.remove(2, 2 * left), left);
        }
    }

    @Told(promise = 4, value = "Throws `IndexOutOfBoundsException` if there is no such map")
    static void removeInNoMap() {
        Spanwarden x = Made.busy();
        Check.refusedOutside(3, x, map -> x.remove(map, 10));
    }

    @Told(promise = 5, value = {"Returns a near key", "Returns the key"})
    static void nearTellsTheKeyOfEachWay() {
        for (char way : "fchl".toCharArray()) {
            Spanwarden x = Made.full(0);
            for (int number = 1; number < 118; number++) {
                boolean isKey = number % 2 == 0;
                boolean isItself = isKey && (way == 'f' || way == 'c');
                int step = isKey ? 2 : 1;
                int beside = way == 'l' || way == 'f' ? number - step : number + step;
                int due = isItself ? number : beside;
                Check.due(way + " of " + number, x.near(0, number, way), due);
            }
        }
    }

    @Told(promise = 5, value = "- `map`: 0 to 2")
    static void nearInEachMap() {
        Spanwarden x = Made.threeMaps();
        int[] due = {5, 9, 3};
        for (int map = 0; map < 3; map++) {
            Check.due("map " + map, x.near(map, 100, 'f'), due[map]);
        }
    }

    @Told(promise = 5, value = "- `number`: any number")
    static void nearOfAnyNumber() {
        Spanwarden x = Made.with(0, -7, 1, 7, 2);
        Check.due("from far below", x.near(0, Check.LEAST, 'c'), -7);
        Check.due("from far below", x.near(0, Check.LEAST, 'h'), -7);
        Check.due("from far above", x.near(0, Check.MOST, 'f'), 7);
        Check.due("from far above", x.near(0, Check.MOST, 'l'), 7);
    }

    @Told(promise = 5, value = "- `how`: 'f', 'c', 'h' or 'l'")
    static void nearByEachWay() {
        Spanwarden x = Made.with(0, 10, 1, 20, 2, 30, 3);
        Check.due("f", x.near(0, 20, 'f'), 20);
        Check.due("c", x.near(0, 20, 'c'), 20);
        Check.due("h", x.near(0, 20, 'h'), 30);
        Check.due("l", x.near(0, 20, 'l'), 10);
    }

    @Told(promise = 5, value = "Throws `IndexOutOfBoundsException` if there is no such map")
    static void nearInNoMap() {
        Spanwarden x = Made.busy();
        Check.refusedOutside(3, x, map -> x.near(map, 10, 'f'));
    }

    @Told(promise = 5, value = "Throws `IllegalArgumentException` if there is no such way")
    static void nearByNoWay() {
        Spanwarden x = Made.busy();
        for (char how : Check.lettersBut("fchl")) {
            Check.refused("way " + (int) how, x, Check.ARGUMENT, () -> x.near(0, 20, how));
        }
    }

    @Told(promise = 5, value = "Throws `NoSuchElementException` if there is none")
    static void nearOfNone() {
        Spanwarden x = Made.with(0, 10, 1, 20, 2);
        for (int number : new int[] {9, Check.LEAST}) {
            Check.refused("f " + number, x, Check.NONE, () -> x.near(0, number, 'f'));
            Check.refused("l " + number, x, Check.NONE, () -> x.near(0, number, 'l'));
        }
        for (int number : new int[] {21, Check.MOST}) {
            Check.refused("c " + number, x, Check.NONE, () -> x.near(0, number, 'c'));
            Check.refused("h " + number, x, Check.NONE, () -> x.near(0, number, 'h'));
        }
        Check.refused("l of the least", x, Check.NONE, () -> x.near(0, 10, 'l'));
        Check.refused("h of the greatest", x, Check.NONE, () -> x.near(0, 20, 'h'));
    }

    @Told(promise = 5, value = "Throws `NoSuchElementException` if there is none")
    static void nearInAnEmptyMap() {
        Spanwarden x = Made.with(0, 10, 1);
        x.remove(0, 10);
        for (char way : "fchl".toCharArray()) {
            Check.refused("emptied", x, Check.NONE, () -> x.near(0, 10, way));
            Check.refused("never filled", x, Check.NONE, () -> x.near(1, 0, way));
        }
    }

    @Told(
            promise = 6,
            value = {
                "Returns the least or the greatest key",
                "- `isLast`: whether the greatest one is meant",
                "Returns the key"
            })
    static void endTellsTheLeastOrTheGreatestKey() {
        Spanwarden x = Made.with(0, 10, 1, -20, 2, 30, 3);
        Check.due("least", x.end(0, false), -20);
        Check.due("greatest", x.end(0, true), 30);
        Check.due("nothing goes", x.size(0), 3);
        Spanwarden one = Made.with(0, 7, 1);
        Check.due("the only one is both", one.end(0, false), one.end(0, true));
    }

    @Told(promise = 6, value = "- `map`: 0 to 2")
    static void endOfEachMap() {
        Spanwarden x = Made.threeMaps();
        int[] due = {1, 2, 3};
        for (int map = 0; map < 3; map++) {
            Check.due("map " + map, x.end(map, false), due[map]);
        }
    }

    @Told(promise = 6, value = "Throws `IndexOutOfBoundsException` if there is no such map")
    static void endOfNoMap() {
        Spanwarden x = Made.busy();
        for (boolean isLast : Check.BOTH) {
            Check.refusedOutside(3, x, map -> x.end(map, isLast));
        }
    }

    @Told(promise = 6, value = "Throws `NoSuchElementException` if it has no entries")
    static void endOfAnEmptyMap() {
        Spanwarden x = Made.with(0, 10, 1);
        x.remove(0, 10);
        for (boolean isLast : Check.BOTH) {
            Check.refused("emptied", x, Check.NONE, () -> x.end(0, isLast));
            Check.refused("never filled", x, Check.NONE, () -> x.end(1, isLast));
        }
    }

    @Told(
            promise = 7,
            value = {
                "Polls the first or the last entry",
                "- `isLast`: whether the last one is meant",
                "Returns its key"
            })
    static void pollTellsTheKey() {
        Spanwarden x = Made.with(0, 10, 1, -20, 2, 30, 3, 5, 4);
        Check.due("first", x.poll(0, false), -20);
        Check.due("last", x.poll(0, true), 30);
        Check.entries("those amid stay", x, 0, 5, 4, 10, 1);
        Check.due("first", x.poll(0, false), 5);
        Check.due("the only one", x.poll(0, true), 10);
        Check.entries("nothing is left", x, 0);
    }

    @Told(promise = 7, value = "- `map`: 0 to 2")
    static void pollEachMap() {
        for (int map = 0; map < 3; map++) {
            Spanwarden x = Made.threeMaps();
            Check.due("map " + map, x.poll(map, false), map + 1);
            Check.due("the others stay", x.size(0) + x.size(1) + x.size(2), 5);
        }
    }

    @Told(promise = 7, value = "Throws `IndexOutOfBoundsException` if there is no such map")
    static void pollNoMap() {
        Spanwarden x = Made.busy();
        for (boolean isLast : Check.BOTH) {
            Check.refusedOutside(3, x, map -> x.poll(map, isLast));
        }
    }

    @Told(promise = 7, value = "Throws `NoSuchElementException` if it has no entries")
    static void pollAnEmptyMap() {
        Spanwarden x = Made.with(0, 10, 1);
        x.poll(0, true);
        for (boolean isLast : Check.BOTH) {
            Check.refused("emptied", x, Check.NONE, () -> x.poll(0, isLast));
            Check.refused("never filled", x, Check.NONE, () -> x.poll(1, isLast));
        }
        Check.due("what was polled stays", x.polled(), 1);
    }

    @Told(
            promise = 8,
            value = {
                "Returns the value of the entry that was polled last, by poll(), viewPoll() or"
                        + " drain()",
                "Returns the value"
            })
    static void polledTellsTheLastValue() {
        Spanwarden x = Made.with(0, 10, 1, 20, 2, 30, 3, 40, 4, 50, 5);
        x.open(0, 0, 15, true, 45, true);
        x.poll(0, false);
        Check.due("first", x.polled(), 1);
        x.poll(0, true);
        Check.due("last", x.polled(), 5);
        x.viewPoll(0, false);
        Check.due("of a view, first", x.polled(), 2);
        x.viewPoll(0, true);
        Check.due("of a view, last", x.polled(), 4);
        Check.due("asked again", x.polled(), 4);
        x.poll(0, false);
        Check.due("the only one", x.polled(), 3);
    }

    @Told(
            promise = 8,
            value =
                    "Returns the value of the entry that was polled last, by poll(), viewPoll() or"
                            + " drain()")
    static void polledAfterADrain() {
        Spanwarden x = Made.with(0, 10, 1, 20, 2, 30, 0);
        Made.put(x, 1, 10, 1, 20, 2, 30, 0);
        x.drain(0, true);
        Check.due("last ones: the least comes last", x.polled(), 1);
        x.drain(1, false);
        Check.due("first ones: the greatest, a value of 0", x.polled(), 0);
    }

    @Told(
            promise = 8,
            value =
                    "Returns the value of the entry that was polled last, by poll(), viewPoll() or"
                            + " drain()")
    static void polledStaysWhenNothingIsPolled() {
        Spanwarden x = Made.tens();
        x.poll(0, false);
        x.drain(1, false);
        Check.due("an empty drain", x.polled(), 1);
        x.remove(0, 20);
        Check.due("a removal", x.polled(), 1);
        x.open(0, 0, 30, true, 40, true);
        x.viewRemove(0, 40);
        x.viewClear(0);
        Check.due("a view cleared", x.polled(), 1);
        x.step(0, 'r', 50, 0);
        x.play(0, 0);
        Check.due("a step", x.polled(), 1);
        x.put(0, 10, 9);
        Check.due("its key put again", x.polled(), 1);
    }

    @Told(promise = 8, value = "Throws `NoSuchElementException` if none was")
    static void polledOfNone() {
        Spanwarden x = new Spanwarden();
        Check.refused("at first", x, Check.NONE, x::polled);
        Made.put(x, 0, 1, 10, 2, 20);
        x.open(0, 0, 0, true, 9, true);
        x.remove(0, 1);
        x.viewClear(0);
        x.drain(1, true);
        Check.refused("after what polls nothing", x, Check.NONE, x::polled);
    }

    private static final String DRAINS =
            "Polls all entries of a map, the first ones or the last ones one by one";

    @Told(promise = 9, value = {DRAINS, "the row is their keys then, as they came"})
    static void drainFirstOnes() {
        Spanwarden x = Made.with(0, 10, 1, -20, 2, 30, 3);
        x.drain(0, false);
        Check.entries("nothing is left", x, 0);
        rowIs("rising", x, -20, 10, 30);
    }

    @Told(promise = 9, value = {DRAINS, "- `isLast`: whether last ones are polled"})
    static void drainLastOnes() {
        Spanwarden x = Made.with(0, 10, 1, -20, 2, 30, 3);
        x.drain(0, true);
        Check.entries("nothing is left", x, 0);
        rowIs("falling", x, 30, 10, -20);
    }

    private static void rowIs(String what, Spanwarden x, int... keys) {
        for (int index = 0; index < keys.length; index++) {
            Check.due(what, x.drained(index), keys[index]);
        }
        Check.refused(what + ", longer", x, Check.BOUNDS, () -> x.drained(keys.length));
    }

    @Told(promise = 9, value = "the row is their keys then, as they came")
    static void drainMakesTheRowAnew() {
        Spanwarden x = Made.with(0, 1, 0, 2, 0, 3, 0);
        Made.put(x, 1, 8, 0);
        x.drain(0, false);
        x.drain(1, false);
        rowIs("a shorter one", x, 8);
        x.drain(1, true);
        rowIs("an empty one", x);
    }

    @Told(promise = 9, value = "- `map`: 0 to 2")
    static void drainEachMap() {
        for (int map = 0; map < 3; map++) {
            Spanwarden x = Made.threeMaps();
            int all = x.size(map);
            Check.due("map " + map, x.drain(map, false), all);
            Check.due("the others stay", x.size(0) + x.size(1) + x.size(2), 6 - all);
        }
    }

    @Told(promise = 9, value = "Returns how many these were")
    static void drainTellsHowMany() {
        for (boolean isLast : Check.BOTH) {
            Spanwarden x = Made.full(2);
            Check.due("full", x.drain(2, isLast), 60);
            for (int row = 0; row < 60; row++) {
                Check.due("row", x.drained(row), isLast ? 118 - 2 * row : 2 * row);
            }
            Check.due("empty", x.drain(2, isLast), 0);
        }
    }

    @Told(promise = 9, value = "Throws `IndexOutOfBoundsException` if there is no such map")
    static void drainNoMap() {
        Spanwarden x = Made.busy();
        for (boolean isLast : Check.BOTH) {
            Check.refusedOutside(3, x, map -> x.drain(map, isLast));
        }
        rowIs("the row stays", x, 2, 1);
    }

    @Told(promise = 10, value = "Returns a number of the row, which is empty at first")
    static void theRowIsEmptyAtFirst() {
        Spanwarden x = Made.with(0, 1, 10, 2, 20);
        for (int index : new int[] {0, 1, 59}) {
            Check.refused("at first", x, Check.BOUNDS, () -> x.drained(index));
        }
        x.poll(0, false);
        Check.refused("a poll is not in it", x, Check.BOUNDS, () -> x.drained(0));
    }

    @Told(promise = 10, value = {"- `index`: its place, from 0", "Returns the key"})
    static void drainedTellsTheKey() {
        Spanwarden x = Made.with(0, Check.LEAST, 10, 2, 20, Check.MOST, 30);
        x.drain(0, false);
        Made.put(x, 0, 5, 50);
        rowIs("whatever comes to the map then", x, Check.LEAST, 2, Check.MOST);
    }

    @Told(promise = 10, value = "Throws `IndexOutOfBoundsException` if there is no such place")
    static void drainedOfNoPlace() {
        Spanwarden x = Made.with(0, 1, 10, 2, 20);
        x.drain(0, false);
        Check.refusedOutside(2, x, x::drained);
        Spanwarden y = Made.full(0);
        y.drain(0, false);
        Check.due("the last of the longest row", y.drained(59), 118);
        Check.refusedOutside(60, y, y::drained);
    }

    @Told(promise = 11, value = {"Returns how many entries a map has", "Returns how many"})
    static void sizeTellsHowMany() {
        Spanwarden x = Made.with(0, 10, 1, -20, 2, 10, 3);
        Check.due("a key counts once", x.size(0), 2);
        Check.due("empty", x.size(1), 0);
        Check.due("full", Made.full(1).size(1), 60);
        x.drain(0, true);
        Check.due("drained", x.size(0), 0);
    }

    @Told(promise = 11, value = "- `map`: 0 to 2")
    static void sizeOfEachMap() {
        Spanwarden x = Made.threeMaps();
        int[] due = {2, 3, 1};
        for (int map = 0; map < 3; map++) {
            Check.due("map " + map, x.size(map), due[map]);
        }
    }

    @Told(promise = 11, value = "Throws `IndexOutOfBoundsException` if there is no such map")
    static void sizeOfNoMap() {
        Spanwarden x = Made.busy();
        Check.refusedOutside(3, x, x::size);
    }

    @Told(
            promise = 12,
            value = {
                "Returns a key of a map by its place",
                "- `index`: its place, from 0",
                "- `isFalling`: whether places count from the greatest key on",
                "Returns the key"
            })
    static void keyAtEachPlace() {
        Spanwarden x = Made.full(0);
        for (int index = 0; index < 60; index++) {
            Check.due("rising", x.keyAt(0, index, false), 2 * index);
            Check.due("falling", x.keyAt(0, index, true), 118 - 2 * index);
        }
    }

    @Told(promise = 12, value = "- `map`: 0 to 2")
    static void keyAtInEachMap() {
        Spanwarden x = Made.threeMaps();
        int[] due = {5, 9, 3};
        for (int map = 0; map < 3; map++) {
            Check.due("map " + map, x.keyAt(map, 0, true), due[map]);
        }
    }

    @Told(
            promise = 12,
            value = "Throws `IndexOutOfBoundsException` if there is no such map, or place")
    static void keyAtInNoMap() {
        Spanwarden x = Made.busy();
        for (boolean isFalling : Check.BOTH) {
            Check.refusedOutside(3, x, map -> x.keyAt(map, 0, isFalling));
        }
    }

    @Told(
            promise = 12,
            value = "Throws `IndexOutOfBoundsException` if there is no such map, or place")
    static void keyAtNoPlace() {
        Spanwarden x = Made.full(1);
        Made.put(x, 0, 1, 10, 2, 20);
        for (boolean isFalling : Check.BOTH) {
            Check.refusedOutside(60, x, place -> x.keyAt(1, place, isFalling));
            Check.refusedOutside(2, x, place -> x.keyAt(0, place, isFalling));
            Check.refusedOutside(0, x, place -> x.keyAt(2, place, isFalling));
        }
    }

    private static final String SUM =
            "Returns the sum, which goes round, of the exclusive or of key and value, of all"
                    + " entries";

    @Told(promise = 13, value = {"Returns the hash code of a map", SUM})
    static void markIsTheSum() {
        Spanwarden x = Made.with(0, 3, 5, 9, 6, -2, 7);
        Check.due("of three", x.mark(0), (3 ^ 5) + (9 ^ 6) + (-2 ^ 7));
        Check.due("of none", x.mark(1), 0);
        x.put(0, 3, 3);
        Check.due("a key that is its value adds nothing", x.mark(0), (9 ^ 6) + (-2 ^ 7));
        x.remove(0, 9);
        Check.due("what is gone adds nothing", x.mark(0), -2 ^ 7);
    }

    @Told(promise = 13, value = SUM)
    static void markGoesRound() {
        Spanwarden x = Made.with(0, Check.MOST, 0, Check.MOST - 1, 0);
        Check.due("above the greatest", x.mark(0), -3);
        Spanwarden y = Made.with(0, Check.LEAST, 0, Check.LEAST + 1, 0);
        Check.due("below the least", y.mark(0), 1);
    }

    @Told(promise = 13, value = "- `map`: 0 to 2")
    static void markOfEachMap() {
        Spanwarden x = Made.threeMaps();
        int[] due = {(1 ^ 10) + (5 ^ 50), (2 ^ 20) + (6 ^ 60) + (9 ^ 90), 3 ^ 30};
        for (int map = 0; map < 3; map++) {
            Check.due("map " + map, x.mark(map), due[map]);
        }
    }

    @Told(promise = 13, value = "Throws `IndexOutOfBoundsException` if there is no such map")
    static void markOfNoMap() {
        Spanwarden x = Made.busy();
        Check.refusedOutside(3, x, x::mark);
    }

    @Told(
            promise = 14,
            value = {"Tells whether two maps have the same entries", "Returns whether they have"})
    static void isLikeByEntries() {
        Spanwarden x = Made.with(0, 3, 5, 9, 6);
        Made.put(x, 1, 9, 6, 3, 5);
        likeBothWays("put in another order", x, true);
        x.put(1, 3, 4);
        likeBothWays("another value", x, false);
        x.remove(1, 3);
        likeBothWays("fewer", x, false);
        x.put(1, 4, 5);
        likeBothWays("another key", x, false);
        x.remove(1, 4);
        x.put(1, 5, 3);
        likeBothWays("key and value changed places", x, false);
        x.drain(1, false);
        likeBothWays("with an empty one", x, false);
        x.drain(0, false);
        likeBothWays("both empty", x, true);
    }

    private static void likeBothWays(String what, Spanwarden x, boolean isLike) {
        Check.holds(what, x.isLike(0, 1) == isLike);
        Check.holds(what + ", the other way", x.isLike(1, 0) == isLike);
    }

    @Told(
            promise = 14,
            value = "Returns whether they have")
    static void isLikeOfFullMaps() {
        Spanwarden x = Made.full(0);
        x.combine(0, 1, 's');
        likeBothWays("full", x, true);
        x.put(1, 118, 0);
        likeBothWays("the last value", x, false);
        x.put(1, 118, 59);
        x.put(1, 0, 1);
        likeBothWays("the first value", x, false);
    }

    @Told(promise = 14, value = {"- `map`: 0 to 2", "- `other`: 0 to 2"})
    static void isLikeOfEachTwo() {
        Spanwarden x = Made.threeMaps();
        for (int map = 0; map < 3; map++) {
            for (int other = 0; other < 3; other++) {
                Check.holds(map + " and " + other, x.isLike(map, other) == (map == other));
            }
        }
    }

    @Told(
            promise = 14,
            value = "Throws `IndexOutOfBoundsException` if there is no such map, for either")
    static void isLikeOfNoMap() {
        Spanwarden x = Made.busy();
        Check.refusedOutside(3, x, map -> x.isLike(map, 0));
        Check.refusedOutside(3, x, map -> x.isLike(0, map));
        Check.refusedOutside(3, x, map -> x.isLike(map, map));
    }
}
