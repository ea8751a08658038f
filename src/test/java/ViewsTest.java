/** Promises 15 to 24. */
public final class ViewsTest {
    private static final String NO_VIEW =
            "Throws `IndexOutOfBoundsException` if there is no such view";
    private static final String NOT_OPEN = "Throws `NoSuchElementException` if it is not open";
    private static final String NOT_OPEN_OR_EMPTY =
            "Throws `NoSuchElementException` if it is not open, or has no entries";
    private static final String VIEW = "- `view`: 0 to 3";

    public static void main(String[] args) throws IllegalAccessException {
        Check.runAll(ViewsTest.class);
    }

    /** Tens; view 0 is open and has no entries, view 1 has a span of nothing, 2 is not open. */
    private static Spanwarden emptyViews() {
        Spanwarden x = Made.tens();
        x.open(0, 0, 11, true, 19, true);
        x.open(1, 0, 20, false, 20, false);
        return x;
    }

    @Told(promise = 15, value = "Opens a view of a map, in place of what it was")
    static void openInPlaceOfWhatItWas() {
        Spanwarden x = Made.fourViews();
        x.open(0, 2, 5, true, 8, true);
        Check.keys("another map and span", x, 0, 7);
        x.cut(0, 1, true, 40, true);
        x.open(0, 0, 80, true, 95, true);
        Check.keys("it was a cut", x, 0, 80, 90);
        Check.keys("the others stay", x, 1, 30, 40, 50);
    }

    @Told(promise = 15, value = VIEW)
    static void openEachView() {
        Spanwarden x = Made.fourViews();
        int[] due = {2, 3, 4, 1};
        for (int view = 0; view < 4; view++) {
            Check.due("view " + view, x.viewSize(view), due[view]);
        }
    }

    @Told(promise = 15, value = "- `map`: 0 to 2")
    static void openOfEachMap() {
        Spanwarden x = Made.threeMaps();
        int[] due = {2, 3, 1};
        for (int map = 0; map < 3; map++) {
            Check.due("map " + map, x.open(0, map, 0, true, 9, true), due[map]);
        }
    }

    @Told(
            promise = 15,
            value = {"- `from`: where the span begins", "- `isFrom`: whether that is counted"})
    static void openFrom() {
        Spanwarden x = Made.tens();
        x.open(0, 0, 20, true, 40, true);
        Check.holds("counted", x.lies(0, 20) && !x.lies(0, 19));
        x.open(0, 0, 20, false, 40, true);
        Check.holds("not counted", !x.lies(0, 20) && x.lies(0, 21));
        Check.due("counted", x.open(0, 0, 20, true, 40, true), 3);
        Check.due("not counted", x.open(0, 0, 20, false, 40, true), 2);
        Check.due("amid keys", x.open(0, 0, 19, false, 40, true), 3);
        Check.due("amid keys", x.open(0, 0, 21, true, 40, true), 2);
        Check.due("the least number", x.open(0, 0, Check.LEAST, false, 40, true), 4);
        Check.due("the greatest number", x.open(0, 0, Check.MOST, true, Check.MOST, true), 0);
    }

    @Told(promise = 15, value = {"- `to`: where it ends", "- `isTo`: whether that is counted"})
    static void openTo() {
        Spanwarden x = Made.tens();
        x.open(0, 0, 20, true, 40, true);
        Check.holds("counted", x.lies(0, 40) && !x.lies(0, 41));
        x.open(0, 0, 20, true, 40, false);
        Check.holds("not counted", !x.lies(0, 40) && x.lies(0, 39));
        Check.due("counted", x.open(0, 0, 20, true, 40, true), 3);
        Check.due("not counted", x.open(0, 0, 20, true, 40, false), 2);
        Check.due("amid keys", x.open(0, 0, 20, true, 41, false), 3);
        Check.due("amid keys", x.open(0, 0, 20, true, 39, true), 2);
        Check.due("the greatest number", x.open(0, 0, 20, true, Check.MOST, false), 8);
        Check.due("the least number", x.open(0, 0, Check.LEAST, true, Check.LEAST, true), 0);
    }

    @Told(promise = 15, value = "Returns how many entries it has")
    static void openTellsHowMany() {
        Spanwarden x = Made.full(1);
        Check.due("all of a full map", x.open(0, 1, 0, true, 118, true), 60);
        Check.due("all but the ends", x.open(0, 1, 0, false, 118, false), 58);
        Check.due("ends that are no keys", x.open(0, 1, -1, false, 119, false), 60);
        Check.due("below all", x.open(0, 1, -9, true, -1, true), 0);
        Check.due("above all", x.open(0, 1, 119, true, 130, true), 0);
        Check.due("between two", x.open(0, 1, 50, false, 52, false), 0);
        Check.due("of an empty map", x.open(0, 0, 0, true, 118, true), 0);
        Check.due("one number", x.open(0, 1, 50, true, 50, true), 1);
        Check.due("one number, that is no key", x.open(0, 1, 51, true, 51, true), 0);
        for (boolean isFrom : Check.BOTH) {
            Check.due("nothing", x.open(0, 1, 50, isFrom, 50, !isFrom), 0);
        }
        Check.due("nothing", x.open(0, 1, 50, false, 50, false), 0);
    }

    @Told(
            promise = 15,
            value = "Throws `IndexOutOfBoundsException` if there is no such view, or map")
    static void openNoViewOrMap() {
        Spanwarden x = Made.busy();
        Check.refusedOutside(4, x, view -> x.open(view, 0, 1, true, 9, true));
        Check.refusedOutside(3, x, map -> x.open(0, map, 1, true, 9, true));
    }

    @Told(
            promise = 15,
            value = "Throws `IllegalArgumentException` if it ends below where it begins")
    static void openThatEndsBelowWhereItBegins() {
        Spanwarden x = Made.busy();
        for (boolean isFrom : Check.BOTH) {
            for (boolean isTo : Check.BOTH) {
                Check.refused(
                        "by 1", x, Check.ARGUMENT, () -> x.open(0, 1, 6, isFrom, 5, isTo));
                Check.refused(
                        "by more than numbers reach", x, Check.ARGUMENT,
                        () -> x.open(3, 1, Check.MOST, isFrom, Check.LEAST, isTo));
                Check.refused(
                        "by half of that", x, Check.ARGUMENT,
                        () -> x.open(1, 1, 1, isFrom, Check.LEAST, isTo));
            }
        }
        Check.due("it ends far above", x.open(3, 1, Check.LEAST, true, Check.MOST, true), 2);
    }

    @Told(promise = 16, value = "Cuts a view from another one, in place of what it was")
    static void cutInPlaceOfWhatItWas() {
        Spanwarden x = Made.fourViews();
        x.cut(3, 2, true, 70, true);
        Check.keys("another map and span", x, 3, 60, 70);
        Check.keys("the other one stays", x, 2, 60, 70, 80, 90);
        x.viewPut(3, 65, 9);
        Check.due("it is of the same map", x.value(0, 65), 9);
    }

    @Told(promise = 16, value = "Cuts a view from another one, in place of what it was")
    static void cutOfACut() {
        Spanwarden x = Made.tens();
        x.open(0, 0, 10, false, 90, false);
        x.cut(1, 0, false, 30, false);
        x.cut(2, 1, true, 70, false);
        Check.keys("of both", x, 2, 40, 50, 60);
        Check.holds("its ends", !x.lies(2, 30) && x.lies(2, 31) && x.lies(2, 69) && !x.lies(2, 70));
        x.cut(3, 1, false, 50, true);
        Check.holds("the end of the first one", x.lies(3, 89) && !x.lies(3, 90));
    }

    @Told(promise = 16, value = {VIEW, "- `other`: 0 to 3, the other one"})
    static void cutEachFromEach() {
        int[] numbers = {20, 50, 90, 7};
        for (int view = 0; view < 4; view++) {
            for (int other = 0; other < 4; other++) {
                Spanwarden x = Made.fourViews();
                x.cut(view, other, false, numbers[other], true);
                Check.keys(view + " from " + other, x, view, numbers[other]);
            }
        }
    }

    @Told(
            promise = 16,
            value = {
                "- `isHead`: whether keys below the number are meant, otherwise those above",
                "- `isIn`: whether it is counted"
            })
    static void cutHeadAndTail() {
        Spanwarden x = Made.tens();
        x.open(0, 0, 20, true, 60, true);
        Check.due("head, counted", x.cut(1, 0, true, 30, true), 2);
        Check.holds("its ends", !x.lies(1, 19) && x.lies(1, 20) && x.lies(1, 30) && !x.lies(1, 31));
        Check.due("head, not counted", x.cut(1, 0, true, 30, false), 1);
        Check.holds("its end", x.lies(1, 29) && !x.lies(1, 30));
        Check.due("tail, counted", x.cut(1, 0, false, 30, true), 4);
        Check.holds("its ends", !x.lies(1, 29) && x.lies(1, 30) && x.lies(1, 60) && !x.lies(1, 61));
        Check.due("tail, not counted", x.cut(1, 0, false, 30, false), 3);
        Check.holds("its begin", !x.lies(1, 30) && x.lies(1, 31));
    }

    @Told(promise = 16, value = "- `number`: the number")
    static void cutAtAnyNumber() {
        Spanwarden x = Made.with(0, Check.LEAST, 1, 0, 2, Check.MOST, 3);
        x.open(0, 0, Check.LEAST, true, Check.MOST, true);
        Check.due("head of all", x.cut(1, 0, true, Check.MOST, true), 3);
        Check.due("head below the greatest", x.cut(1, 0, true, Check.MOST, false), 2);
        Check.due("head of the least", x.cut(1, 0, true, Check.LEAST, true), 1);
        Check.due("head of nothing", x.cut(1, 0, true, Check.LEAST, false), 0);
        Check.due("tail of all", x.cut(1, 0, false, Check.LEAST, true), 3);
        Check.due("tail above the least", x.cut(1, 0, false, Check.LEAST, false), 2);
        Check.due("tail of the greatest", x.cut(1, 0, false, Check.MOST, true), 1);
        Check.due("tail of nothing", x.cut(1, 0, false, Check.MOST, false), 0);
    }

    @Told(promise = 16, value = "Returns how many entries it has")
    static void cutTellsHowMany() {
        Spanwarden x = Made.full(2);
        x.open(3, 2, 0, true, 118, true);
        for (int number = 0; number <= 118; number++) {
            int below = (number + 1) / 2;
            int isKey = 1 - number % 2;
            Check.due("head, counted", x.cut(0, 3, true, number, true), below + isKey);
            Check.due("tail", x.cut(0, 3, false, number, false), 60 - below - isKey);
        }
    }

    @Told(
            promise = 16,
            value = "Throws `IndexOutOfBoundsException` if there is no such view, for either")
    static void cutOfNoView() {
        Spanwarden x = Made.busy();
        Check.refusedOutside(4, x, view -> x.cut(view, 0, true, 30, true));
        Check.refusedOutside(4, x, view -> x.cut(0, view, true, 30, true));
        Check.refusedOutside(4, x, view -> x.cut(view, view, true, 30, true));
    }

    @Told(promise = 16, value = "Throws `NoSuchElementException` if the other one is not open")
    static void cutFromWhatIsNotOpen() {
        Spanwarden x = Made.busy();
        for (boolean isHead : Check.BOTH) {
            Check.refused("open", x, Check.NONE, () -> x.cut(0, 3, isHead, 30, true));
            Check.refused("itself", x, Check.NONE, () -> x.cut(3, 3, isHead, 30, true));
        }
        Check.due("what is made need not be open", x.cut(3, 0, true, 30, true), 1);
    }

    private static final String NOT_IN_ITS_SPAN =
            "Throws `IllegalArgumentException` if the number does not lie in its span";

    private static void cutIsRefusedAt(Spanwarden x, int other, int... numbers) {
        for (int number : numbers) {
            for (boolean isHead : Check.BOTH) {
                for (boolean isIn : Check.BOTH) {
                    Check.refused(
                            "at " + number, x, Check.ARGUMENT,
                            () -> x.cut(3, other, isHead, number, isIn));
                }
            }
        }
    }

    @Told(promise = 16, value = NOT_IN_ITS_SPAN)
    static void cutOutsideOfTheSpan() {
        Spanwarden x = Made.tens();
        x.open(0, 0, 20, true, 40, true);
        cutIsRefusedAt(x, 0, 19, 41, Check.LEAST, Check.MOST);
    }

    @Told(promise = 16, value = NOT_IN_ITS_SPAN)
    static void cutAtAnEndThatIsNotCounted() {
        Spanwarden x = Made.tens();
        x.open(0, 0, 20, false, 40, true);
        cutIsRefusedAt(x, 0, 20);
        x.open(1, 0, 20, true, 40, false);
        cutIsRefusedAt(x, 1, 40);
        Check.due("the other end is counted", x.cut(3, 0, false, 40, true), 1);
        Check.due("the other end is counted", x.cut(3, 1, true, 20, true), 1);
    }

    @Told(promise = 16, value = NOT_IN_ITS_SPAN)
    static void cutOfASpanOfNothing() {
        Spanwarden x = emptyViews();
        cutIsRefusedAt(x, 1, 20, 19, 21);
        x.open(2, 0, 20, true, 20, false);
        cutIsRefusedAt(x, 2, 20);
    }

    private static final String TWELVE =
            "Throws `IllegalStateException` if 12 cuts were made to it";

    @Told(promise = 16, value = TWELVE)
    static void cutAfterTwelveCuts() {
        for (boolean isHead : Check.BOTH) {
            Spanwarden x = Made.tens();
            x.open(0, 0, 0, true, 99, true);
            for (int cuts = 1; cuts <= 12; cuts++) {
                Check.due("cut " + cuts, x.cut(0, 0, isHead, 50, true), 5);
            }
            for (int view = 0; view < 4; view++) {
                int made = view;
                Check.refused("a 13th", x, Check.STATE, () -> x.cut(made, 0, true, 50, true));
                Check.refused("a 13th", x, Check.STATE, () -> x.cut(made, 0, false, 50, true));
            }
        }
    }

    @Told(promise = 16, value = TWELVE)
    static void cutsCountFromTheViewThatWasOpened() {
        Spanwarden x = Made.tens();
        x.open(0, 0, 0, true, 99, true);
        x.cut(1, 0, true, 98, true);
        for (int cuts = 2; cuts <= 12; cuts++) {
            x.cut(1, 1, true, 98, true);
        }
        Check.refused("a 13th", x, Check.STATE, () -> x.cut(2, 1, true, 98, true));
        Check.due("the one that was opened has none", x.cut(2, 0, true, 98, true), 9);
        Check.due("and its cut has one", x.cut(1, 2, true, 98, true), 9);
        for (int cuts = 3; cuts <= 12; cuts++) {
            Check.due("cut " + cuts, x.cut(1, 1, true, 98, true), 9);
        }
        Check.refused("a 13th", x, Check.STATE, () -> x.cut(1, 1, true, 98, true));
        x.open(1, 0, 0, true, 99, true);
        Check.due("opened anew", x.cut(1, 1, true, 98, true), 9);
    }

    @Told(promise = 17, value = "Puts an entry through a view")
    static void viewPutPutsIntoTheMap() {
        Spanwarden x = Made.with(1, 10, 1, 20, 2, 30, 3);
        x.open(0, 1, 15, true, 30, true);
        x.viewPut(0, 25, 9);
        x.viewPut(0, 20, 8);
        Check.entries("put and replaced", x, 1, 10, 1, 20, 8, 25, 9, 30, 3);
    }

    @Told(promise = 17, value = VIEW)
    static void viewPutThroughEachView() {
        int[] keys = {15, 45, 85, 3};
        for (int view = 0; view < 4; view++) {
            Spanwarden x = Made.fourViews();
            int had = x.viewSize(view);
            Check.due("view " + view, x.viewPut(view, keys[view], 5), had + 1);
            Check.due("in its map", x.value(view == 3 ? 2 : 0, keys[view]), 5);
        }
    }

    @Told(promise = 17, value = {"- `key`: the key", "- `value`: the value"})
    static void viewPutOfAnyNumbers() {
        Spanwarden x = new Spanwarden();
        x.open(0, 0, Check.LEAST, true, Check.MOST, true);
        x.viewPut(0, Check.LEAST, Check.MOST);
        x.viewPut(0, Check.MOST, Check.LEAST);
        x.viewPut(0, 0, 0);
        Check.entries(
                "any", x, 0, Check.LEAST, Check.MOST, 0, 0, Check.MOST, Check.LEAST);
    }

    @Told(promise = 17, value = "Returns how many entries the view has then")
    static void viewPutTellsHowMany() {
        Spanwarden x = Made.tens();
        x.open(0, 0, 20, false, 40, true);
        Check.due("a new key", x.viewPut(0, 25, 9), 3);
        Check.due("a key that is there", x.viewPut(0, 25, 8), 3);
        Check.due("at a counted end", x.viewPut(0, 40, 7), 3);
        Check.due("just inside", x.viewPut(0, 21, 7), 4);
    }

    @Told(promise = 17, value = NO_VIEW)
    static void viewPutThroughNoView() {
        Spanwarden x = Made.busy();
        Check.refusedOutside(4, x, view -> x.viewPut(view, 30, 1));
    }

    @Told(promise = 17, value = NOT_OPEN)
    static void viewPutThroughWhatIsNotOpen() {
        Spanwarden x = Made.busy();
        Check.refused("not open", x, Check.NONE, () -> x.viewPut(3, 30, 1));
    }

    @Told(
            promise = 17,
            value = "Throws `IllegalArgumentException` if the key does not lie in its span")
    static void viewPutOutsideOfTheSpan() {
        Spanwarden x = Made.tens();
        x.open(0, 0, 20, false, 40, false);
        x.open(1, 0, 20, true, 40, true);
        x.open(2, 0, 20, true, 20, false);
        // Also keys that the map has.
        for (int key : new int[] {20, 40, 10, 50, Check.LEAST, Check.MOST}) {
            Check.refused("key " + key, x, Check.ARGUMENT, () -> x.viewPut(0, key, 9));
        }
        for (int key : new int[] {19, 41}) {
            Check.refused("key " + key, x, Check.ARGUMENT, () -> x.viewPut(1, key, 9));
        }
        Check.refused("a span of nothing", x, Check.ARGUMENT, () -> x.viewPut(2, 20, 9));
        Check.due("at a counted end", x.viewPut(1, 20, 9), 3);
        Check.due("at a counted end", x.viewPut(1, 40, 9), 3);
    }

    @Told(
            promise = 17,
            value = "Throws `IllegalStateException` if the map has 60, and no such key")
    static void viewPutIntoAFullMap() {
        Spanwarden x = Made.full(1);
        x.open(3, 1, 50, true, 70, true);
        for (int key : new int[] {51, 61, 69}) {
            Check.refused("key " + key, x, Check.STATE, () -> x.viewPut(3, key, 0));
        }
        Check.due("a key that is there", x.viewPut(3, 60, -1), 11);
        Check.due("its value", x.value(1, 60), -1);
        x.remove(1, 0);
        Check.due("there is room again", x.viewPut(3, 61, 7), 12);
        Check.refused("full again", x, Check.STATE, () -> x.viewPut(3, 51, 0));
    }

    @Told(promise = 18, value = "Takes a key away through a view")
    static void viewRemoveTakesAwayFromTheMap() {
        Spanwarden x = Made.with(1, 10, 1, 20, 2, 30, 3, 40, 4);
        x.open(0, 1, 20, true, 40, true);
        x.viewRemove(0, 30);
        Check.entries("amid", x, 1, 10, 1, 20, 2, 40, 4);
        x.viewRemove(0, 40);
        Check.entries("at a counted end", x, 1, 10, 1, 20, 2);
        x.viewRemove(0, 20);
        Check.entries("at a counted end", x, 1, 10, 1);
    }

    @Told(promise = 18, value = VIEW)
    static void viewRemoveThroughEachView() {
        int[] keys = {10, 40, 90, 7};
        for (int view = 0; view < 4; view++) {
            Spanwarden x = Made.fourViews();
            int had = x.viewSize(view);
            Check.holds("view " + view, x.viewRemove(view, keys[view]));
            Check.due("its entries", x.viewSize(view), had - 1);
        }
    }

    @Told(promise = 18, value = "- `key`: the key")
    static void viewRemoveOfAnyKey() {
        Spanwarden x = Made.with(0, Check.LEAST, 1, 0, 2, Check.MOST, 3);
        x.open(0, 0, Check.LEAST, true, Check.MOST, false);
        Check.holds("the least", x.viewRemove(0, Check.LEAST));
        Check.holds("the greatest, that does not lie in it", !x.viewRemove(0, Check.MOST));
        Check.entries("others stay", x, 0, 0, 2, Check.MOST, 3);
    }

    @Told(promise = 18, value = "Returns whether the view had it")
    static void viewRemoveTellsWhetherItWasThere() {
        Spanwarden x = Made.tens();
        x.open(0, 0, 20, false, 40, false);
        Check.holds("a key of it", x.viewRemove(0, 30));
        Check.holds("not again", !x.viewRemove(0, 30));
        Check.holds("no key", !x.viewRemove(0, 35));
        for (int key : new int[] {20, 40, 10, 50}) {
            Check.holds("a key of the map that is outside", !x.viewRemove(0, key));
        }
        Check.due("those stay in the map", x.size(0), 8);
    }

    @Told(promise = 18, value = "Returns whether the view had it")
    static void viewRemoveOfWhatIsGone() {
        Spanwarden x = Made.tens();
        x.open(0, 0, 0, true, 99, true);
        for (int key = 90; key > 0; key -= 10) {
            Check.holds("the last one", x.viewRemove(0, key));
            Check.holds("not again", !x.viewRemove(0, key));
        }
        Check.due("nothing is left", x.viewSize(0), 0);
    }

    @Told(promise = 18, value = NO_VIEW)
    static void viewRemoveThroughNoView() {
        Spanwarden x = Made.busy();
        Check.refusedOutside(4, x, view -> x.viewRemove(view, 30));
    }

    @Told(promise = 18, value = NOT_OPEN)
    static void viewRemoveThroughWhatIsNotOpen() {
        Spanwarden x = Made.busy();
        Check.refused("not open", x, Check.NONE, () -> x.viewRemove(3, 30));
        Check.refused("no such key either", x, Check.NONE, () -> x.viewRemove(3, 31));
    }

    @Told(promise = 19, value = {"Returns a near key, of those of a view", "Returns the key"})
    static void viewNearTellsKeysOfTheViewAlone() {
        Spanwarden x = Made.tens();
        x.open(0, 0, 10, false, 50, false);
        int[][] due = {
            // number, f, c, h, l
            {21, 20, 30, 30, 20},
            {29, 20, 30, 30, 20},
            {30, 30, 30, 40, 20},
            {31, 30, 40, 40, 30},
        };
        for (int[] row : due) {
            for (int way = 0; way < 4; way++) {
                Check.due("of " + row[0], x.viewNear(0, row[0], "fchl".charAt(way)), row[way + 1]);
            }
        }
    }

    @Told(promise = 19, value = VIEW)
    static void viewNearInEachView() {
        Spanwarden x = Made.fourViews();
        int[] due = {20, 50, 90, 7};
        for (int view = 0; view < 4; view++) {
            Check.due("view " + view, x.viewNear(view, 1000, 'f'), due[view]);
        }
    }

    @Told(promise = 19, value = "- `number`: any number")
    static void viewNearOfNumbersOutsideOfTheSpan() {
        Spanwarden x = Made.tens();
        x.open(0, 0, 10, false, 50, false);
        for (int number : new int[] {50, 51, 90, 91, Check.MOST}) {
            Check.due("f from above", x.viewNear(0, number, 'f'), 40);
            Check.due("l from above", x.viewNear(0, number, 'l'), 40);
        }
        for (int number : new int[] {10, 9, 0, Check.LEAST}) {
            Check.due("c from below", x.viewNear(0, number, 'c'), 20);
            Check.due("h from below", x.viewNear(0, number, 'h'), 20);
        }
    }

    @Told(promise = 19, value = "- `how`: 'f', 'c', 'h' or 'l'")
    static void viewNearByEachWay() {
        Spanwarden x = Made.tens();
        x.open(0, 0, 20, true, 40, true);
        Check.due("f", x.viewNear(0, 20, 'f'), 20);
        Check.due("c", x.viewNear(0, 40, 'c'), 40);
        Check.due("h", x.viewNear(0, 20, 'h'), 30);
        Check.due("l", x.viewNear(0, 40, 'l'), 30);
    }

    @Told(promise = 19, value = NO_VIEW)
    static void viewNearInNoView() {
        Spanwarden x = Made.busy();
        Check.refusedOutside(4, x, view -> x.viewNear(view, 30, 'f'));
    }

    @Told(promise = 19, value = "Throws `IllegalArgumentException` if there is no such way")
    static void viewNearByNoWay() {
        Spanwarden x = Made.busy();
        for (char how : Check.lettersBut("fchl")) {
            Check.refused("way " + (int) how, x, Check.ARGUMENT, () -> x.viewNear(0, 40, how));
        }
    }

    private static final String NOT_OPEN_OR_NONE =
            "Throws `NoSuchElementException` if it is not open, or there is none";

    @Told(promise = 19, value = NOT_OPEN_OR_NONE)
    static void viewNearInWhatIsNotOpen() {
        Spanwarden x = Made.busy();
        for (char way : "fchl".toCharArray()) {
            Check.refused("not open", x, Check.NONE, () -> x.viewNear(3, 30, way));
        }
    }

    @Told(promise = 19, value = NOT_OPEN_OR_NONE)
    static void viewNearOfNone() {
        Spanwarden x = Made.tens();
        x.open(0, 0, 10, false, 50, false);
        // The map has such keys, outside of the span.
        for (int number : new int[] {19, 10, 9, Check.LEAST}) {
            Check.refused("f of " + number, x, Check.NONE, () -> x.viewNear(0, number, 'f'));
        }
        for (int number : new int[] {20, 10, 9, Check.LEAST}) {
            Check.refused("l of " + number, x, Check.NONE, () -> x.viewNear(0, number, 'l'));
        }
        for (int number : new int[] {41, 50, 51, Check.MOST}) {
            Check.refused("c of " + number, x, Check.NONE, () -> x.viewNear(0, number, 'c'));
        }
        for (int number : new int[] {40, 50, 51, Check.MOST}) {
            Check.refused("h of " + number, x, Check.NONE, () -> x.viewNear(0, number, 'h'));
        }
    }

    @Told(promise = 19, value = NOT_OPEN_OR_NONE)
    static void viewNearInAViewWithoutEntries() {
        Spanwarden x = emptyViews();
        for (char way : "fchl".toCharArray()) {
            for (int number : new int[] {10, 15, 20, Check.LEAST, Check.MOST}) {
                Check.refused("no entries", x, Check.NONE, () -> x.viewNear(0, number, way));
                Check.refused("no span", x, Check.NONE, () -> x.viewNear(1, number, way));
            }
        }
    }

    @Told(
            promise = 20,
            value = {
                "Returns the least or the greatest key of a view",
                "- `isLast`: whether the greatest one is meant",
                "Returns the key"
            })
    static void viewEndTellsTheLeastOrTheGreatestKey() {
        Spanwarden x = Made.tens();
        x.open(0, 0, 10, false, 50, false);
        Check.due("least", x.viewEnd(0, false), 20);
        Check.due("greatest", x.viewEnd(0, true), 40);
        x.open(0, 0, 20, true, 40, true);
        Check.due("least, counted", x.viewEnd(0, false), 20);
        Check.due("greatest, counted", x.viewEnd(0, true), 40);
        x.open(0, 0, 25, true, 35, true);
        Check.due("the only one is both", x.viewEnd(0, false), x.viewEnd(0, true));
        x.open(0, 0, Check.LEAST, true, Check.MOST, true);
        Check.due("least of all", x.viewEnd(0, false), 10);
        Check.due("greatest of all", x.viewEnd(0, true), 90);
    }

    @Told(promise = 20, value = VIEW)
    static void viewEndOfEachView() {
        Spanwarden x = Made.fourViews();
        int[] due = {10, 30, 60, 7};
        for (int view = 0; view < 4; view++) {
            Check.due("view " + view, x.viewEnd(view, false), due[view]);
        }
    }

    @Told(promise = 20, value = NO_VIEW)
    static void viewEndOfNoView() {
        Spanwarden x = Made.busy();
        for (boolean isLast : Check.BOTH) {
            Check.refusedOutside(4, x, view -> x.viewEnd(view, isLast));
        }
    }

    @Told(promise = 20, value = NOT_OPEN_OR_EMPTY)
    static void viewEndOfWhatIsNotOpen() {
        Spanwarden x = emptyViews();
        for (boolean isLast : Check.BOTH) {
            Check.refused("not open", x, Check.NONE, () -> x.viewEnd(2, isLast));
        }
    }

    @Told(promise = 20, value = NOT_OPEN_OR_EMPTY)
    static void viewEndOfNoEntries() {
        Spanwarden x = emptyViews();
        for (boolean isLast : Check.BOTH) {
            Check.refused("no entries", x, Check.NONE, () -> x.viewEnd(0, isLast));
            Check.refused("no span", x, Check.NONE, () -> x.viewEnd(1, isLast));
        }
    }

    @Told(
            promise = 21,
            value = {
                "Polls the first or the last entry of a view",
                "- `isLast`: whether the last one is meant",
                "Returns its key"
            })
    static void viewPollTellsTheKey() {
        Spanwarden x = Made.with(1, 1, 10, 2, 20, 3, 30, 4, 40, 5, 50);
        x.open(0, 1, 1, false, 5, false);
        Check.due("first", x.viewPoll(0, false), 2);
        Check.due("its value", x.polled(), 20);
        Check.due("last", x.viewPoll(0, true), 4);
        Check.due("its value", x.polled(), 40);
        Check.due("the only one", x.viewPoll(0, true), 3);
        Check.due("its value", x.polled(), 30);
        Check.entries("those outside stay", x, 1, 1, 10, 5, 50);
    }

    @Told(promise = 21, value = VIEW)
    static void viewPollEachView() {
        int[] due = {20, 50, 90, 7};
        for (int view = 0; view < 4; view++) {
            Spanwarden x = Made.fourViews();
            Check.due("view " + view, x.viewPoll(view, true), due[view]);
        }
    }

    @Told(promise = 21, value = NO_VIEW)
    static void viewPollNoView() {
        Spanwarden x = Made.busy();
        for (boolean isLast : Check.BOTH) {
            Check.refusedOutside(4, x, view -> x.viewPoll(view, isLast));
        }
    }

    @Told(promise = 21, value = NOT_OPEN_OR_EMPTY)
    static void viewPollWhatIsNotOpen() {
        Spanwarden x = emptyViews();
        for (boolean isLast : Check.BOTH) {
            Check.refused("not open", x, Check.NONE, () -> x.viewPoll(2, isLast));
        }
    }

    @Told(promise = 21, value = NOT_OPEN_OR_EMPTY)
    static void viewPollOfNoEntries() {
        Spanwarden x = emptyViews();
        for (boolean isLast : Check.BOTH) {
            Check.refused("no entries", x, Check.NONE, () -> x.viewPoll(0, isLast));
            Check.refused("no span", x, Check.NONE, () -> x.viewPoll(1, isLast));
        }
        Check.refused("nothing was polled", x, Check.NONE, x::polled);
    }

    @Told(promise = 22, value = {"Takes all entries of a view away", "Returns how many went"})
    static void viewClearTakesAllAway() {
        Spanwarden x = Made.with(2, 1, 10, 2, 20, 3, 30, 4, 40, 5, 50);
        x.open(0, 2, 1, false, 4, true);
        Check.due("those amid", x.viewClear(0), 3);
        Check.entries("those outside stay", x, 2, 1, 10, 5, 50);
        Check.due("again", x.viewClear(0), 0);
        Check.due("it stays open", x.viewSize(0), 0);
        x.open(0, 2, 0, true, 1, true);
        Check.due("the first", x.viewClear(0), 1);
        x.open(0, 2, 5, true, 6, true);
        Check.due("the last, the only one", x.viewClear(0), 1);
        Check.entries("nothing is left", x, 2);
    }

    @Told(promise = 22, value = "Returns how many went")
    static void viewClearOfAFullMap() {
        Spanwarden x = Made.full(1);
        x.open(0, 1, Check.LEAST, true, Check.MOST, true);
        Check.due("all", x.viewClear(0), 60);
        Check.due("none are left", x.size(1), 0);
    }

    @Told(promise = 22, value = "Returns how many went")
    static void viewClearOfNoEntries() {
        Spanwarden x = emptyViews();
        Check.due("no entries", x.viewClear(0), 0);
        Check.due("no span", x.viewClear(1), 0);
        Check.due("all stay", x.size(0), 9);
    }

    @Told(promise = 22, value = VIEW)
    static void viewClearEachView() {
        int[] due = {2, 3, 4, 1};
        for (int view = 0; view < 4; view++) {
            Spanwarden x = Made.fourViews();
            Check.due("view " + view, x.viewClear(view), due[view]);
            Check.due("others stay", x.size(0) + x.size(2), 10 - due[view]);
        }
    }

    @Told(promise = 22, value = NO_VIEW)
    static void viewClearNoView() {
        Spanwarden x = Made.busy();
        Check.refusedOutside(4, x, x::viewClear);
    }

    @Told(promise = 22, value = NOT_OPEN)
    static void viewClearWhatIsNotOpen() {
        Spanwarden x = Made.busy();
        Check.refused("not open", x, Check.NONE, () -> x.viewClear(3));
    }

    @Told(promise = 23, value = "Returns how many entries a view has")
    static void viewSizeTellsHowMany() {
        Spanwarden x = Made.full(0);
        x.open(0, 0, 0, true, 118, true);
        x.open(1, 0, 11, true, 17, true);
        Check.due("all", x.viewSize(0), 60);
        Check.due("some", x.viewSize(1), 3);
        x.remove(0, 14);
        Check.due("all, without one", x.viewSize(0), 59);
        Check.due("some, without one", x.viewSize(1), 2);
        x.drain(0, true);
        Check.due("none", x.viewSize(0), 0);
    }

    @Told(promise = 23, value = VIEW)
    static void viewSizeOfEachView() {
        Spanwarden x = Made.fourViews();
        int[] due = {2, 3, 4, 1};
        for (int view = 0; view < 4; view++) {
            Check.due("view " + view, x.viewSize(view), due[view]);
        }
    }

    @Told(promise = 23, value = "Returns how many, -1 if it is not open")
    static void viewSizeOfWhatIsNotOpen() {
        Spanwarden x = emptyViews();
        Check.due("no entries", x.viewSize(0), 0);
        Check.due("no span", x.viewSize(1), 0);
        Check.due("not open", x.viewSize(2), -1);
        Check.refused("open of it", x, Check.ARGUMENT, () -> x.open(2, 0, 5, true, 4, true));
        Check.due("still not open", x.viewSize(2), -1);
    }

    @Told(promise = 23, value = NO_VIEW)
    static void viewSizeOfNoView() {
        Spanwarden x = Made.busy();
        Check.refusedOutside(4, x, x::viewSize);
    }

    @Told(
            promise = 24,
            value = {
                "Tells whether a number lies in the span of a view",
                "Returns whether it does"
            })
    static void liesByTheEnds() {
        for (boolean isFrom : Check.BOTH) {
            for (boolean isTo : Check.BOTH) {
                Spanwarden x = new Spanwarden();
                x.open(0, 0, 10, isFrom, 40, isTo);
                Check.holds("where it begins", x.lies(0, 10) == isFrom);
                Check.holds("where it ends", x.lies(0, 40) == isTo);
                Check.holds("just inside", x.lies(0, 11) && x.lies(0, 39));
                Check.holds("just outside", !x.lies(0, 9) && !x.lies(0, 41));
            }
        }
    }

    @Told(promise = 24, value = "Returns whether it does")
    static void liesInASpanOfOneNumber() {
        for (boolean isFrom : Check.BOTH) {
            for (boolean isTo : Check.BOTH) {
                Spanwarden x = Made.with(0, 7, 1);
                x.open(0, 0, 7, isFrom, 7, isTo);
                Check.holds("the number", x.lies(0, 7) == (isFrom && isTo));
                Check.holds("beside it", !x.lies(0, 6) && !x.lies(0, 8));
            }
        }
    }

    @Told(promise = 24, value = "- `number`: any number")
    static void liesOfAnyNumber() {
        Spanwarden x = new Spanwarden();
        x.open(0, 0, Check.LEAST, true, Check.MOST, true);
        Check.holds("both ends", x.lies(0, Check.LEAST) && x.lies(0, Check.MOST) && x.lies(0, 0));
        x.open(0, 0, Check.LEAST, false, Check.MOST, false);
        Check.holds("neither", !x.lies(0, Check.LEAST) && !x.lies(0, Check.MOST) && x.lies(0, 0));
        x.open(0, 0, -5, true, 5, true);
        Check.holds("far outside", !x.lies(0, Check.LEAST) && !x.lies(0, Check.MOST));
    }

    @Told(promise = 24, value = VIEW)
    static void liesInEachView() {
        Spanwarden x = Made.fourViews();
        int[] numbers = {15, 45, 75, 5};
        for (int view = 0; view < 4; view++) {
            for (int other = 0; other < 4; other++) {
                Check.holds("view " + view, x.lies(view, numbers[other]) == (view == other));
            }
        }
    }

    @Told(promise = 24, value = NO_VIEW)
    static void liesInNoView() {
        Spanwarden x = Made.busy();
        Check.refusedOutside(4, x, view -> x.lies(view, 30));
    }

    @Told(promise = 24, value = NOT_OPEN)
    static void liesInWhatIsNotOpen() {
        Spanwarden x = Made.busy();
        Check.refused("not open", x, Check.NONE, () -> x.lies(3, 30));
    }
}
