/** What the document tells ahead of the promises. */
public final class TermsTest {
    private static final String VIEW_MADE =
            "A view is opened of a map, with a span, or cut from a view that is open, itself"
                    + " perhaps, which stays as it is unless it is the one that is made: all of its"
                    + " keys below a number, or above it, the number counted or not";
    private static final String VIEW_IS =
            "A view is of one map, whatever becomes of it, and has a span: from a number, itself"
                    + " counted or not, to another one, itself counted or not";
    private static final String AT_MOST_60 =
            "Each has at most 60 entries, a key and a value, any numbers, each key once";
    private static final String NEAR_KEYS =
            "For a number the near keys of a map are: 'f' the greatest one not above it, 'c' the"
                    + " least one not below it, 'h' the least one above it, 'l' the greatest one"
                    + " below it";
    private static final String TURNS =
            "Two are put into one another by turns: a row of bits, the lowest one first, tells"
                    + " whose next step is done, 0 that of the one, 1 that of the other one";
    private static final String TURNS_LEFT =
            "who has none left leaves its turns to the other one, 32 bits being used again and"
                    + " again";
    private static final String OPPOSITE =
            "The opposite of a history for a map has a step for each of its keys, by rising keys:"
                    + " 'p' with the value that the key has in the map now, or 'r', with the number"
                    + " 0, if it has none";
    private static final String TOGETHER =
            "To put a map together with another one: each entry of the one, by rising keys, comes"
                    + " to the other one: if the key is there, by 's' the sum of both values, by"
                    + " 'g' the greater one, by 'l' the lesser one is its value, otherwise that of"
                    + " the one";

    public static void main(String[] args) throws IllegalAccessException {
        Check.runAll(TermsTest.class);
    }

    @Told("An object is used for at most 512 calls after it has been made")
    static void allOf512CallsAreAnswered() {
        Spanwarden x = new Spanwarden();
        for (int i = 0; i < 60; i++) {
            x.put(0, i, i);
            x.put(1, 100 + i, i);
            x.put(2, 30 + i, i);
        }
        for (int i = 0; i < 30; i++) {
            x.step(0, 'r', i, i);
            x.step(1, 'x', 30 + i, i);
            x.step(2, 's', 60 + i, i);
        }
        for (int view = 0; view < 4; view++) {
            x.open(view, view % 3, Check.LEAST, true, Check.MOST, true);
        }
        // 180 puts, 90 steps and 4 views are behind; the last call of all comes after these.
        for (int call = 274; call < 511; call++) {
            if (!x.isSound()) {
                Check.fail("not sound in call " + call);
            }
        }
        Check.due("the 512th call", x.checksum(), checksumOfFull());
    }

    private static long checksumOfFull() {
        long sum = 7;
        int[] begins = {0, 100, 30};
        for (int begin : begins) {
            sum = sum * 31 + 60;
            for (int i = 0; i < 60; i++) {
                sum = (sum * 31 + begin + i) * 31 + i;
            }
        }
        for (int view = 0; view < 4; view++) {
            sum = sum * 31 + 60;
            for (int i = 0; i < 60; i++) {
                sum = sum * 31 + begins[view % 3] + i;
            }
        }
        for (int history = 0; history < 3; history++) {
            sum = sum * 31 + 30;
            for (int i = 0; i < 30; i++) {
                sum = ((sum * 31 + "rxs".charAt(history)) * 31 + 30 * history + i) * 31 + i;
            }
        }
        return sum;
    }

    @Told({"All is by whole numbers", "sums of values go round"})
    static void sumsOfValuesGoRoundAboveTheGreatest() {
        Spanwarden x = Made.with(0, 1, Check.MOST);
        Made.put(x, 1, 1, 2);
        x.step(0, 's', 1, 1);
        x.play(0, 0);
        Check.due("by a step", x.value(0, 1), Check.LEAST);
        x.put(0, 1, Check.MOST);
        x.combine(0, 1, 's');
        Check.due("by putting maps together", x.value(1, 1), Check.LEAST + 1);
    }

    @Told("sums of values go round")
    static void sumsOfValuesGoRoundBelowTheLeast() {
        Spanwarden x = Made.with(0, 1, Check.LEAST);
        Made.put(x, 1, 1, Check.LEAST);
        x.combine(0, 1, 's');
        Check.due("by putting maps together", x.value(1, 1), 0);
        x.step(0, 's', 1, -1);
        x.play(0, 0);
        Check.due("by a step", x.value(0, 1), Check.MOST);
    }

    @Told("Part 1, maps, 0 to 2")
    static void threeMapsAreApart() {
        Spanwarden x = new Spanwarden();
        for (int map = 0; map < 3; map++) {
            x.put(map, 5, map + 1);
        }
        for (int map = 0; map < 3; map++) {
            Check.entries("map " + map, x, map, 5, map + 1);
        }
        Check.refusedOutside(3, x, map -> x.put(map, 5, 0));
    }

    @Told(AT_MOST_60)
    static void eachMapTakes60Entries() {
        for (int map = 0; map < 3; map++) {
            int full = map;
            Spanwarden x = Made.full(map);
            Check.due("entries", x.size(map), 60);
            Check.refused("a 61st one", x, Check.STATE, () -> x.put(full, 1, 0));
        }
    }

    @Told(AT_MOST_60)
    static void keysAndValuesAreAnyNumbers() {
        Spanwarden x = Made.with(2, 0, Check.MOST, Check.MOST, Check.LEAST, Check.LEAST, 0);
        Check.entries("any", x, 2, Check.LEAST, 0, 0, Check.MOST, Check.MOST, Check.LEAST);
    }

    @Told(AT_MOST_60)
    static void eachKeyIsThereOnce() {
        Spanwarden x = Made.with(1, 4, 1, 4, 2, 5, 3, 4, 4);
        Check.entries("once", x, 1, 4, 4, 5, 3);
    }

    @Told("none at first")
    static void mapsHaveNoEntriesAtFirst() {
        Spanwarden x = new Spanwarden();
        for (int map = 0; map < 3; map++) {
            Check.entries("map " + map, x, map);
        }
    }

    @Told(NEAR_KEYS)
    static void nearKeys() {
        Spanwarden x = Made.with(0, 10, 1, 20, 2, 30, 3);
        int[][] due = {
            // number, f, c, h, l
            {11, 10, 20, 20, 10},
            {19, 10, 20, 20, 10},
            {20, 20, 20, 30, 10},
            {21, 20, 30, 30, 20},
            {29, 20, 30, 30, 20},
        };
        for (int[] row : due) {
            for (int way = 0; way < 4; way++) {
                Check.due("of " + row[0], x.near(0, row[0], "fchl".charAt(way)), row[way + 1]);
            }
        }
    }

    @Told({NEAR_KEYS, "there may be none"})
    static void nearKeysAtTheEndsOfAllNumbers() {
        Spanwarden x = Made.with(0, Check.LEAST, 1, 0, 2, Check.MOST, 3);
        Check.due("f of the greatest", x.near(0, Check.MOST, 'f'), Check.MOST);
        Check.due("c of the greatest", x.near(0, Check.MOST, 'c'), Check.MOST);
        Check.due("l of the greatest", x.near(0, Check.MOST, 'l'), 0);
        Check.due("f of the least", x.near(0, Check.LEAST, 'f'), Check.LEAST);
        Check.due("c of the least", x.near(0, Check.LEAST, 'c'), Check.LEAST);
        Check.due("h of the least", x.near(0, Check.LEAST, 'h'), 0);
        Check.due("f of -1", x.near(0, -1, 'f'), Check.LEAST);
        Check.due("c of 1", x.near(0, 1, 'c'), Check.MOST);
        Check.refused("l of the least", x, Check.NONE, () -> x.near(0, Check.LEAST, 'l'));
        Check.refused("h of the greatest", x, Check.NONE, () -> x.near(0, Check.MOST, 'h'));
    }

    @Told("there may be none")
    static void thereMayBeNoNearKey() {
        Spanwarden x = Made.with(0, 10, 1, 20, 2);
        Check.refused("f", x, Check.NONE, () -> x.near(0, 9, 'f'));
        Check.refused("l", x, Check.NONE, () -> x.near(0, 10, 'l'));
        Check.refused("c", x, Check.NONE, () -> x.near(0, 21, 'c'));
        Check.refused("h", x, Check.NONE, () -> x.near(0, 20, 'h'));
    }

    @Told("To poll is to take away the first entry, that of the least key, or the last one")
    static void toPollTakesAway() {
        Spanwarden x = Made.with(0, 10, 1, -20, 2, 30, 3, 5, 4);
        Check.due("first", x.poll(0, false), -20);
        Check.entries("without the first", x, 0, 5, 4, 10, 1, 30, 3);
        Check.due("last", x.poll(0, true), 30);
        Check.entries("without both", x, 0, 5, 4, 10, 1);
    }

    @Told("Part 2, views, 0 to 3, none open at first")
    static void noViewIsOpenAtFirst() {
        Spanwarden x = new Spanwarden();
        for (int view = 0; view < 4; view++) {
            int closed = view;
            Check.due("size", x.viewSize(view), -1);
            Check.refused("not open", x, Check.NONE, () -> x.lies(closed, 0));
        }
        Check.refusedOutside(4, x, x::viewSize);
    }

    @Told("Part 2, views, 0 to 3, none open at first")
    static void fourViewsAreApart() {
        Spanwarden x = Made.fourViews();
        Check.keys("view 0", x, 0, 10, 20);
        Check.keys("view 1", x, 1, 30, 40, 50);
        Check.keys("view 2", x, 2, 60, 70, 80, 90);
        Check.keys("view 3", x, 3, 7);
    }

    @Told(VIEW_IS)
    static void aViewIsOfItsMapWhateverBecomesOfIt() {
        Spanwarden x = Made.with(1, 3, 1, 4, 2);
        Made.put(x, 0, 5, 1);
        x.open(0, 1, 0, true, 9, true);
        x.drain(1, false);
        Check.keys("drained", x, 0);
        x.combine(0, 1, 's');
        Check.keys("put together", x, 0, 5);
        x.step(0, 'p', 6, 1);
        x.step(0, 'r', 5, 0);
        x.play(0, 1);
        Check.keys("played on", x, 0, 6);
        x.put(0, 7, 1);
        Check.keys("another map has more", x, 0, 6);
    }

    @Told(VIEW_IS)
    static void endsAreCountedOrNot() {
        Spanwarden x = Made.tens();
        x.open(0, 0, 20, true, 40, true);
        Check.keys("both", x, 0, 20, 30, 40);
        x.open(0, 0, 20, false, 40, true);
        Check.keys("the last", x, 0, 30, 40);
        x.open(0, 0, 20, true, 40, false);
        Check.keys("the first", x, 0, 20, 30);
        x.open(0, 0, 20, false, 40, false);
        Check.keys("neither", x, 0, 30);
    }

    @Told(VIEW_IS)
    static void aSpanOfOneNumberHasItIfBothEndsAreCounted() {
        Spanwarden x = Made.tens();
        for (boolean isFrom : Check.BOTH) {
            for (boolean isTo : Check.BOTH) {
                int due = isFrom && isTo ? 1 : 0;
                Check.due("entries", x.open(0, 0, 20, isFrom, 20, isTo), due);
                Check.holds("number", x.lies(0, 20) == (due == 1));
            }
        }
    }

    @Told(VIEW_IS)
    static void aSpanGoesToTheEndsOfAllNumbers() {
        Spanwarden x = Made.with(0, Check.LEAST, 1, 0, 2, Check.MOST, 3);
        x.open(0, 0, Check.LEAST, true, Check.MOST, true);
        Check.keys("both", x, 0, Check.LEAST, 0, Check.MOST);
        x.open(0, 0, Check.LEAST, false, Check.MOST, false);
        Check.keys("neither", x, 0, 0);
    }

    @Told("It has at every time just those entries of the map whose keys lie in the span")
    static void aViewIsNeverStale() {
        Spanwarden x = Made.tens();
        x.open(0, 0, 20, true, 40, true);
        x.put(0, 25, 0);
        Check.keys("put in the map", x, 0, 20, 25, 30, 40);
        x.put(0, 15, 0);
        x.put(0, 45, 0);
        Check.keys("put beside it", x, 0, 20, 25, 30, 40);
        x.remove(0, 20);
        x.remove(0, 50);
        Check.keys("taken away", x, 0, 25, 30, 40);
        x.poll(0, true);
        x.poll(0, false);
        Check.keys("polled beside it", x, 0, 25, 30, 40);
        x.open(1, 0, 30, true, 40, true);
        x.viewClear(1);
        Check.keys("cleared by another view", x, 0, 25);
    }

    @Told(
            "what is put, taken away or polled in it is put, taken away or polled in the map")
    static void aViewChangesItsMap() {
        Spanwarden x = Made.with(1, 1, 10, 2, 20, 3, 30, 4, 40, 5, 50);
        x.open(0, 1, 2, true, 9, true);
        x.viewPut(0, 6, 60);
        x.viewPut(0, 3, 31);
        Check.entries("put", x, 1, 1, 10, 2, 20, 3, 31, 4, 40, 5, 50, 6, 60);
        x.viewRemove(0, 4);
        Check.entries("taken away", x, 1, 1, 10, 2, 20, 3, 31, 5, 50, 6, 60);
        x.viewPoll(0, false);
        x.viewPoll(0, true);
        Check.entries("polled", x, 1, 1, 10, 3, 31, 5, 50);
        x.viewClear(0);
        Check.entries("cleared", x, 1, 1, 10);
    }

    @Told(VIEW_MADE)
    static void cutsAreBelowOrAboveANumber() {
        Spanwarden x = Made.tens();
        x.open(0, 0, 10, false, 60, true);
        x.cut(1, 0, true, 30, true);
        Check.keys("below, counted", x, 1, 20, 30);
        x.cut(1, 0, true, 30, false);
        Check.keys("below, not counted", x, 1, 20);
        x.cut(1, 0, false, 30, true);
        Check.keys("above, counted", x, 1, 30, 40, 50, 60);
        x.cut(1, 0, false, 30, false);
        Check.keys("above, not counted", x, 1, 40, 50, 60);
        x.cut(1, 0, false, 25, true);
        Check.keys("between keys", x, 1, 30, 40, 50, 60);
    }

    @Told(VIEW_MADE)
    static void theViewThatIsCutFromStays() {
        Spanwarden x = Made.tens();
        x.open(0, 0, 10, false, 60, true);
        x.cut(1, 0, true, 30, true);
        Check.keys("the other one", x, 0, 20, 30, 40, 50, 60);
        x.open(0, 1, 0, true, 1, true);
        Check.keys("the cut, when the other one is opened anew", x, 1, 20, 30);
    }

    @Told(VIEW_MADE)
    static void aViewIsCutFromItself() {
        Spanwarden x = Made.tens();
        x.open(2, 0, 10, true, 60, false);
        x.cut(2, 2, false, 20, false);
        Check.keys("above", x, 2, 30, 40, 50);
        x.cut(2, 2, true, 40, true);
        Check.keys("and below", x, 2, 30, 40);
        Check.holds("both ends", !x.lies(2, 20) && x.lies(2, 40) && !x.lies(2, 41));
    }

    @Told("the number must lie in its span, as an end that is not counted does not")
    static void anEndThatIsNotCountedIsNoPlaceForACut() {
        Spanwarden x = Made.tens();
        x.open(0, 0, 20, false, 40, false);
        for (boolean isHead : Check.BOTH) {
            for (boolean isIn : Check.BOTH) {
                for (int number : new int[] {19, 20, 40, 41, Check.LEAST, Check.MOST}) {
                    Check.refused(
                            "at " + number, x, Check.ARGUMENT,
                            () -> x.cut(1, 0, isHead, number, isIn));
                }
            }
        }
        Check.due("just inside", x.cut(1, 0, true, 21, true), 0);
        Check.due("just inside", x.cut(1, 0, false, 39, true), 0);
    }

    @Told("the number must lie in its span, as an end that is not counted does not")
    static void anEndThatIsCountedIsAPlaceForACut() {
        Spanwarden x = Made.tens();
        x.open(0, 0, 20, true, 40, true);
        Check.due("below the first", x.cut(1, 0, true, 20, false), 0);
        Check.due("up to the first", x.cut(1, 0, true, 20, true), 1);
        Check.due("above the last", x.cut(1, 0, false, 40, false), 0);
        Check.due("from the last", x.cut(1, 0, false, 40, true), 1);
    }

    @Told("At most 12 cuts are made behind one another from a view that was opened of a map")
    static void twelveCutsBehindOneAnother() {
        Spanwarden x = Made.tens();
        x.open(0, 0, 0, true, 99, true);
        x.cut(1, 0, true, 98, true);
        for (int cuts = 2; cuts <= 12; cuts++) {
            int view = cuts % 2 == 0 ? 2 : 1;
            Check.due("cut " + cuts, x.cut(view, 3 - view, true, 98, true), 9);
        }
        for (int view = 0; view < 4; view++) {
            int made = view;
            Check.refused("a 13th", x, Check.STATE, () -> x.cut(made, 2, true, 98, true));
        }
        Check.due("the first one has few behind it", x.cut(3, 0, true, 98, true), 9);
        Check.due("opened anew", x.open(2, 0, 0, true, 99, true), 9);
        Check.due("begins anew", x.cut(2, 2, true, 98, true), 9);
    }

    @Told("At most 12 cuts are made behind one another from a view that was opened of a map")
    static void manyCutsOfOneViewAreNotBehindOneAnother() {
        Spanwarden x = Made.tens();
        x.open(0, 0, 0, true, 99, true);
        for (int cuts = 1; cuts <= 40; cuts++) {
            Check.due("cut " + cuts, x.cut(1, 0, false, 50, true), 5);
        }
    }

    @Told("Part 3, histories, 0 to 2, of at most 30 steps each, none at first")
    static void histories() {
        Spanwarden x = new Spanwarden();
        for (int history = 0; history < 3; history++) {
            int full = history;
            Check.due("none at first", x.forget(history), 0);
            for (int steps = 1; steps <= 30; steps++) {
                Check.due("step", x.step(history, 'p', steps, 0), steps);
            }
            Check.refused("a 31st", x, Check.STATE, () -> x.step(full, 'p', 0, 0));
        }
        Check.refusedOutside(3, x, history -> x.step(history, 'p', 0, 0));
    }

    /** One step on a map with the entry 1, 10. */
    private static Spanwarden afterStep(char kind, int key, int number) {
        Spanwarden x = Made.with(0, 1, 10);
        x.step(0, kind, key, number);
        x.play(0, 0);
        return x;
    }

    @Told("A step has a kind, a key and a number: 'p' the key gets the number as its value")
    static void stepPuts() {
        Check.entries("there", afterStep('p', 1, 5), 0, 1, 5);
        Check.entries("not there", afterStep('p', 2, 5), 0, 1, 10, 2, 5);
    }

    @Told("'r' the key is taken away")
    static void stepTakesAway() {
        Check.entries("there", afterStep('r', 1, 5), 0);
        Check.entries("not there", afterStep('r', 2, 5), 0, 1, 10);
    }

    @Told("'s' the number is added to its value, or is its value if there is no such key")
    static void stepAdds() {
        Check.entries("there", afterStep('s', 1, 5), 0, 1, 15);
        Check.entries("below 0", afterStep('s', 1, -15), 0, 1, -5);
        Check.entries("not there", afterStep('s', 2, 5), 0, 1, 10, 2, 5);
        Check.entries("0, not there", afterStep('s', 2, 0), 0, 1, 10, 2, 0);
    }

    @Told("'a' the key gets the number if there is no such key")
    static void stepPutsWhatIsAbsent() {
        Check.entries("there", afterStep('a', 1, 5), 0, 1, 10);
        Check.entries("not there", afterStep('a', 2, 5), 0, 1, 10, 2, 5);
    }

    @Told("'x' likewise if there is one")
    static void stepPutsWhatIsThere() {
        Check.entries("there", afterStep('x', 1, 5), 0, 1, 5);
        Check.entries("not there", afterStep('x', 2, 5), 0, 1, 10);
    }

    @Told("To play a history on a map is to do its steps on it, one by one")
    static void stepsAreDoneOneByOne() {
        Spanwarden x = new Spanwarden();
        x.step(2, 'a', 7, 1);
        x.step(2, 's', 7, 2);
        x.step(2, 'x', 7, 30);
        x.step(2, 's', 7, 4);
        x.step(2, 'a', 7, 500);
        x.step(2, 'p', 8, 6);
        x.step(2, 'r', 8, 0);
        x.step(2, 'x', 8, 9);
        x.play(2, 1);
        Check.entries("in their order", x, 1, 7, 34);
    }

    /** History 0 sets 1, 2, 3; history 1 adds 10 three times. Tells what is left of it. */
    private static int valueAfter(int turns) {
        Spanwarden x = new Spanwarden();
        for (int i = 1; i <= 3; i++) {
            x.step(0, 'p', 1, i);
            x.step(1, 's', 1, 10);
        }
        x.playBoth(0, 1, turns, 0);
        return x.value(0, 1);
    }

    @Told(TURNS)
    static void theLowestBitIsTheFirstTurn() {
        Check.due("one, other, other, other", valueAfter(0b001110), 3);
        Check.due("other first", valueAfter(0b000001), 23);
        Check.due("one, other by turns", valueAfter(0b101010), 13);
        Check.due("other, one by turns", valueAfter(0b010101), 3);
        Check.due("in pairs", valueAfter(0b110100), 23);
    }

    @Told(TURNS)
    static void zerosAreOfTheOneAndOnesOfTheOther() {
        Check.due("three of the one", valueAfter(0b111000), 33);
        Check.due("three of the other one", valueAfter(0b000111), 3);
    }

    @Told(TURNS_LEFT)
    static void whoHasNoneLeftLeavesItsTurns() {
        Check.due("all turns are of the one", valueAfter(0), 33);
        Check.due("all turns are of the other one", valueAfter(-1), 3);
        Spanwarden x = new Spanwarden();
        x.step(0, 'p', 1, 7);
        Check.due("the other one is empty", x.playBoth(0, 1, -1, 0), 1);
        Check.due("the one is empty", x.playBoth(1, 0, 0, 1), 1);
        Check.due("both are", x.playBoth(1, 2, 5, 2), 0);
    }

    /** 30 steps of history 0, which set 0, and 30 of history 1, which add 1. */
    private static int valueAfterLong(int turns) {
        Spanwarden x = new Spanwarden();
        for (int i = 0; i < 30; i++) {
            x.step(0, 'p', 1, 0);
            x.step(1, 's', 1, 1);
        }
        x.playBoth(0, 1, turns, 0);
        return x.value(0, 1);
    }

    @Told(TURNS_LEFT)
    static void thirtyTwoBitsAreUsedAgain() {
        // 16 turns of history 1, then 16 of history 0, and so again: 14 of each come after that.
        Check.due("low half", valueAfterLong(0x0000FFFF), 0);
        Check.due("high half", valueAfterLong(0xFFFF0000), 14);
        // Bit 0 alone: 1 of history 1, then all 30 of history 0; 29 of history 1 remain.
        Check.due("bit 0 alone", valueAfterLong(1), 29);
        // The highest bit alone: turn 31 comes when history 0 is through; 30 follow at once.
        Check.due("bit 31 alone", valueAfterLong(Check.LEAST), 30);
        // Turn 32 is bit 0 again: it is of history 1, and the last 3 of history 0 follow later.
        Check.due("bits 0 to 3 and 31", valueAfterLong(0x8000000F), 21);
    }

    @Told(OPPOSITE)
    static void oppositeHasAStepForEachKey() {
        Spanwarden x = Made.with(0, 1, 10, 5, 50);
        x.step(0, 's', 5, 1);
        x.step(0, 'r', 3, 8);
        x.step(0, 'x', 5, 2);
        x.step(0, 'a', -7, 4);
        Check.due("three keys in four steps", x.opposite(0, 0, 1), 3);
        HistoriesTest.stepsAre("by rising keys", x, 1, 'r', -7, 0, 'r', 3, 0, 'p', 5, 50);
    }

    @Told(OPPOSITE)
    static void oppositeIsOfTheMapAsItIsNow() {
        Spanwarden x = Made.with(0, 5, 50);
        x.step(0, 'p', 5, 1);
        x.step(0, 'p', 6, 1);
        x.play(0, 0);
        x.opposite(0, 0, 1);
        x.put(0, 6, 2);
        HistoriesTest.stepsAre("after it was played", x, 1, 'p', 5, 1, 'p', 6, 1);
    }

    @Told(TOGETHER)
    static void togetherByEachWay() {
        int[][] due = {{'s', 12, -12}, {'g', 7, -5}, {'l', 5, -7}};
        for (int[] row : due) {
            Spanwarden x = Made.with(0, 1, 5, 2, -5, 9, 4);
            Made.put(x, 1, 1, 7, 2, -7, 4, 44);
            x.combine(0, 1, (char) row[0]);
            Check.entries("the other one", x, 1, 1, row[1], 2, row[2], 4, 44, 9, 4);
            Check.entries("the one", x, 0, 1, 5, 2, -5, 9, 4);
        }
    }

    @Told(TOGETHER)
    static void theGreaterAndTheLesserOfFarNumbers() {
        int[][] due = {{'s', -1}, {'g', Check.MOST}, {'l', Check.LEAST}};
        for (int[] row : due) {
            Spanwarden x = Made.with(0, 1, Check.LEAST);
            Made.put(x, 1, 1, Check.MOST);
            x.combine(0, 1, (char) row[0]);
            Check.entries("far apart", x, 1, 1, row[1]);
        }
    }

    @Told("A method that throws an exception changes nothing")
    static void refusedCallsChangeNothing() {
        Spanwarden x = Made.busy();
        x.drain(2, false);
        Check.refused("value", x, Check.NONE, () -> x.value(0, 11));
        Check.refused("near", x, Check.NONE, () -> x.near(0, 10, 'l'));
        Check.refused("end", x, Check.NONE, () -> x.end(2, true));
        Check.refused("poll", x, Check.NONE, () -> x.poll(2, true));
        Check.refused("drain", x, Check.BOUNDS, () -> x.drain(3, true));
        Check.refused("drained", x, Check.BOUNDS, () -> x.drained(2));
        Check.refused("keyAt", x, Check.BOUNDS, () -> x.keyAt(0, 9, true));
        Check.refused("open", x, Check.ARGUMENT, () -> x.open(0, 1, 5, true, 4, true));
        Check.refused("cut", x, Check.ARGUMENT, () -> x.cut(0, 0, true, 20, true));
        Check.refused("cut", x, Check.NONE, () -> x.cut(0, 3, true, 30, true));
        Check.refused("viewPut", x, Check.ARGUMENT, () -> x.viewPut(0, 20, 1));
        Check.refused("viewRemove", x, Check.NONE, () -> x.viewRemove(3, 30));
        Check.refused("viewNear", x, Check.NONE, () -> x.viewNear(0, 30, 'l'));
        Check.refused("viewEnd", x, Check.NONE, () -> x.viewEnd(3, false));
        Check.refused("viewPoll", x, Check.NONE, () -> x.viewPoll(3, false));
        Check.refused("viewClear", x, Check.NONE, () -> x.viewClear(3));
        Check.refused("lies", x, Check.NONE, () -> x.lies(3, 30));
        Check.refused("step", x, Check.ARGUMENT, () -> x.step(0, 'q', 1, 1));
        Check.refused("forget", x, Check.BOUNDS, () -> x.forget(3));
        Check.refused("opposite", x, Check.BOUNDS, () -> x.opposite(0, 0, 3));
        Check.refused("combine", x, Check.ARGUMENT, () -> x.combine(0, 1, 'q'));
        Check.refused("meanKey", x, Check.ARITHMETIC, () -> x.meanKey(2));
    }

    @Told("A method that throws an exception changes nothing")
    static void refusedCallsChangeNothingForWantOfRoom() {
        Spanwarden x = Made.full(0);
        Made.put(x, 1, 0, 100, 2, 100, 3, 100);
        for (int steps = 0; steps < 30; steps++) {
            x.step(0, 'p', 2 * steps, -1);
        }
        x.step(1, 'p', 0, -1);
        x.step(1, 'p', 1, -1);
        x.open(0, 0, 0, true, 9, true);
        Check.refused("put", x, Check.STATE, () -> x.put(0, 1, 0));
        Check.refused("viewPut", x, Check.STATE, () -> x.viewPut(0, 1, 0));
        Check.refused("step", x, Check.STATE, () -> x.step(0, 'p', 0, 0));
        // Steps and entries that would have room come ahead of the one that has none.
        Check.refused("play", x, Check.STATE, () -> x.play(1, 0));
        Check.refused("playBoth", x, Check.STATE, () -> x.playBoth(0, 1, 0, 0));
        Check.refused("combine", x, Check.STATE, () -> x.combine(1, 0, 's'));
    }

    private static final String FIRST_IS_THROWN =
            "If several exceptions apply, the one that is documented first is thrown";

    @Told(FIRST_IS_THROWN)
    static void noPlaceComesFirst() {
        Spanwarden x = Made.full(0);
        x.open(0, 0, 0, true, 9, true);
        Check.refused("near, way", x, Check.BOUNDS, () -> x.near(3, 0, 'q'));
        Check.refused("open, span", x, Check.BOUNDS, () -> x.open(4, 0, 5, true, 4, true));
        Check.refused("open, span", x, Check.BOUNDS, () -> x.open(0, 3, 5, true, 4, true));
        Check.refused("cut, not open", x, Check.BOUNDS, () -> x.cut(4, 1, true, 5, true));
        Check.refused("cut, span", x, Check.BOUNDS, () -> x.cut(4, 0, true, 10, true));
        Check.refused("viewNear, way", x, Check.BOUNDS, () -> x.viewNear(4, 0, 'q'));
        Check.refused("step, kind", x, Check.BOUNDS, () -> x.step(3, 'q', 0, 0));
        Check.refused("combine, way", x, Check.BOUNDS, () -> x.combine(3, 0, 'q'));
        Check.refused("combine, way", x, Check.BOUNDS, () -> x.combine(0, 3, 'q'));
        Check.refused("combine, the same", x, Check.BOUNDS, () -> x.combine(3, 3, 's'));
        x.step(0, 'p', 1, 1);
        Check.refused("playBoth, room", x, Check.BOUNDS, () -> x.playBoth(3, 0, 0, 0));
        Check.refused("playBoth, room", x, Check.BOUNDS, () -> x.playBoth(0, 3, 0, 0));
    }

    @Told(FIRST_IS_THROWN)
    static void noWayComesAheadOfNone() {
        Spanwarden x = Made.tens();
        x.open(0, 0, 11, true, 19, true);
        Check.refused("near, empty", x, Check.ARGUMENT, () -> x.near(1, 0, 'q'));
        Check.refused("near, none", x, Check.ARGUMENT, () -> x.near(0, 5, 'F'));
        Check.refused("viewNear, not open", x, Check.ARGUMENT, () -> x.viewNear(1, 0, 'q'));
        Check.refused("viewNear, empty", x, Check.ARGUMENT, () -> x.viewNear(0, 0, 'q'));
    }

    @Told(FIRST_IS_THROWN)
    static void theSpanComesAheadOfRoom() {
        Spanwarden x = Made.full(0);
        x.open(0, 0, 0, true, 9, true);
        Check.refused("viewPut", x, Check.ARGUMENT, () -> x.viewPut(0, 11, 0));
        for (int cuts = 0; cuts < 12; cuts++) {
            x.cut(0, 0, true, 9, true);
        }
        Check.refused("cut", x, Check.ARGUMENT, () -> x.cut(1, 0, true, 10, true));
    }

    @Told(FIRST_IS_THROWN)
    static void noWayComesAheadOfRoom() {
        Spanwarden x = Made.full(0);
        x.put(1, 1, 1);
        for (int steps = 0; steps < 30; steps++) {
            x.step(0, 'p', 0, 0);
        }
        Check.refused("step", x, Check.ARGUMENT, () -> x.step(0, 'q', 0, 0));
        Check.refused("combine", x, Check.ARGUMENT, () -> x.combine(1, 0, 'q'));
    }
}
