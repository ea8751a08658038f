/** Promises 15 to 24. */
public final class ViewsTest {
    private static final int LEAST = Integer.MIN_VALUE;
    private static final int MOST = Integer.MAX_VALUE;
    private static final int[] NO_VIEWS = {-1, 4, LEAST, MOST};
    private static final int[] NO_MAPS = {-1, 3, LEAST, MOST};

    public static void main(String[] args) {
        open();
        openIsLive();
        cut();
        cutOfItself();
        cutsBehindOneAnother();
        cutIsRefused();
        viewPut();
        viewRemove();
        viewNear();
        viewEnd();
        viewPoll();
        viewClear();
        viewSize();
        lies();
        Check.end();
    }

    /** Map 0 has the keys 10 to 50 by tens, with their own tenth as value. */
    private static Spanwarden tens() {
        return MapsTest.with(10, 1, 20, 2, 30, 3, 40, 4, 50, 5);
    }

    private static void open() {
        Spanwarden x = tens();
        Check.due("both counted", x.open(0, 0, 20, true, 40, true), 3);
        Check.due("the first not", x.open(0, 0, 20, false, 40, true), 2);
        Check.due("the last not", x.open(0, 0, 20, true, 40, false), 2);
        Check.due("neither", x.open(0, 0, 20, false, 40, false), 1);
        Check.due("between keys", x.open(0, 0, 11, true, 49, true), 3);
        Check.due("all", x.open(0, 0, LEAST, true, MOST, true), 5);
        Check.due("all but the ends", x.open(0, 0, LEAST, false, MOST, false), 5);
        Check.due("none", x.open(0, 0, 60, true, 70, true), 0);
        Check.due("one key", x.open(0, 0, 20, true, 20, true), 1);
        Check.due("one key, half counted", x.open(0, 0, 20, true, 20, false), 0);
        Check.due("one key, half counted", x.open(0, 0, 20, false, 20, true), 0);
        Check.due("one key, not counted", x.open(0, 0, 20, false, 20, false), 0);
        Check.due("another map", x.open(0, 2, 20, true, 40, true), 0);
        Check.refused("ends below", x, Check.ARGUMENT, () -> x.open(0, 0, 5, true, 4, true));
        Check.refused(
                "ends far below", x, Check.ARGUMENT, () -> x.open(1, 0, MOST, true, LEAST, true));
        for (int view : NO_VIEWS) {
            Check.refused("no view", x, Check.BOUNDS, () -> x.open(view, 0, 5, true, 4, true));
        }
        for (int map : NO_MAPS) {
            Check.refused("no map", x, Check.BOUNDS, () -> x.open(0, map, 5, true, 4, true));
        }
    }

    private static void openIsLive() {
        Spanwarden x = tens();
        x.open(3, 0, 20, true, 40, true);
        x.put(0, 25, 0);
        Check.due("put in the map", x.viewSize(3), 4);
        x.put(0, 60, 0);
        Check.due("put outside", x.viewSize(3), 4);
        x.remove(0, 20);
        Check.due("removed in the map", x.viewSize(3), 3);
        x.drain(0, false);
        Check.due("drained in the map", x.viewSize(3), 0);
        x.step(0, 'p', 30, 1);
        x.play(0, 0);
        Check.due("played on the map", x.viewEnd(3, false), 30);
        x.put(1, 35, 1);
        x.combine(1, 0, 's');
        Check.due("put together", x.viewSize(3), 2);
    }

    private static void cut() {
        Spanwarden x = tens();
        x.open(0, 0, 10, false, 50, true);
        Check.due("head, counted", x.cut(1, 0, true, 30, true), 2);
        Check.holds("it begins where the other one does", !x.lies(1, 10) && x.lies(1, 11));
        Check.holds("it ends at the number", x.lies(1, 30) && !x.lies(1, 31));
        Check.due("head, not counted", x.cut(1, 0, true, 30, false), 1);
        Check.holds("it ends below the number", x.lies(1, 29) && !x.lies(1, 30));
        Check.due("tail, counted", x.cut(2, 0, false, 30, true), 3);
        Check.holds("it begins at the number", x.lies(2, 30) && !x.lies(2, 29));
        Check.holds("it ends where the other one does", x.lies(2, 50) && !x.lies(2, 51));
        Check.due("tail, not counted", x.cut(2, 0, false, 30, false), 2);
        Check.holds("it begins above the number", x.lies(2, 31) && !x.lies(2, 30));
        Check.due("the other one stays", x.viewSize(0), 4);
        Check.due("at a counted end", x.cut(3, 0, true, 50, false), 3);
        Check.due("nothing but an end", x.cut(3, 0, false, 50, true), 1);
        Check.due("nothing at all", x.cut(3, 3, false, 50, false), 0);
        x.viewPut(2, 35, 9);
        Check.due("a cut is of the map", x.value(0, 35), 9);
        x.open(0, 1, 0, true, 5, true);
        Check.due("it stays, whatever it was cut from", x.viewSize(2), 3);
    }

    private static void cutOfItself() {
        Spanwarden x = tens();
        x.open(0, 0, 10, true, 50, false);
        Check.due("cut of itself, tail", x.cut(0, 0, false, 20, true), 3);
        Check.due("cut of itself, head", x.cut(0, 0, true, 30, true), 2);
        Check.holds("both ends are cut", x.lies(0, 20) && x.lies(0, 30));
        Check.holds("nothing beside", !x.lies(0, 19) && !x.lies(0, 31));
        Check.refused("it has become less", x, Check.ARGUMENT, () -> x.cut(0, 0, true, 40, true));
    }

    private static void cutsBehindOneAnother() {
        Spanwarden x = tens();
        x.open(0, 0, 0, true, 100, true);
        for (int cuts = 0; cuts < 12; cuts++) {
            // From view to view, and now and then of itself.
            int from = cuts / 2 % 4;
            int to = (cuts + 1) / 2 % 4;
            Check.due("cut " + cuts, x.cut(to, from, true, 99 - cuts, true), 5);
        }
        Check.refused("a 13th cut", x, Check.STATE, () -> x.cut(3, 2, true, 50, true));
        Check.refused("a 13th cut of itself", x, Check.STATE, () -> x.cut(2, 2, true, 50, true));
        Check.refused("number ahead", x, Check.ARGUMENT, () -> x.cut(3, 2, true, 89, true));
        Check.due("one with fewer cuts goes on", x.cut(1, 1, true, 50, false), 4);
        Check.due("opened anew", x.open(2, 0, 0, true, 100, true), 5);
        Check.due("begins anew", x.cut(2, 2, true, 50, true), 5);
    }

    private static void cutIsRefused() {
        Spanwarden x = tens();
        x.open(0, 0, 10, false, 50, true);
        for (boolean isHead : new boolean[] {false, true}) {
            for (boolean isIn : new boolean[] {false, true}) {
                Check.refused(
                        "not open", x, Check.NONE, () -> x.cut(0, 1, isHead, 20, isIn));
                // The end that is not counted does not lie, though the library would cut there.
                for (int number : new int[] {10, 9, 51, LEAST, MOST}) {
                    Check.refused(
                            "not in the span", x, Check.ARGUMENT,
                            () -> x.cut(1, 0, isHead, number, isIn));
                }
                for (int view : NO_VIEWS) {
                    Check.refused(
                            "no view", x, Check.BOUNDS, () -> x.cut(view, 1, isHead, 10, isIn));
                    Check.refused(
                            "no other", x, Check.BOUNDS, () -> x.cut(1, view, isHead, 10, isIn));
                }
            }
        }
        x.open(2, 0, 20, false, 20, false);
        Check.refused("of nothing", x, Check.ARGUMENT, () -> x.cut(1, 2, true, 20, false));
    }

    private static void viewPut() {
        Spanwarden x = tens();
        x.open(0, 0, 20, false, 40, true);
        Check.due("put", x.viewPut(0, 25, 9), 3);
        Check.due("it is in the map", x.value(0, 25), 9);
        Check.due("put again", x.viewPut(0, 25, 8), 3);
        Check.due("it is changed in the map", x.value(0, 25), 8);
        Check.due("at a counted end", x.viewPut(0, 40, 7), 3);
        for (int key : new int[] {20, 41, 10, LEAST, MOST}) {
            Check.refused("not in the span", x, Check.ARGUMENT, () -> x.viewPut(0, key, 0));
        }
        Check.refused("not open", x, Check.NONE, () -> x.viewPut(1, 25, 0));
        for (int view : NO_VIEWS) {
            Check.refused("no view", x, Check.BOUNDS, () -> x.viewPut(view, 25, 0));
        }
        Spanwarden y = MapsTest.full(1);
        y.open(3, 1, 50, true, 70, true);
        Check.due("a key that is there, in a full map", y.viewPut(3, 55, -1), 10);
        Check.due("its value", y.value(1, 55), -1);
        Check.refused("a 61st key", y, Check.STATE, () -> y.viewPut(3, 60, 0));
        Check.refused("span ahead of fullness", y, Check.ARGUMENT, () -> y.viewPut(3, 71, 0));
    }

    private static void viewRemove() {
        Spanwarden x = tens();
        x.open(0, 0, 20, false, 40, true);
        Check.holds("a key of it", x.viewRemove(0, 30));
        Check.due("it is gone from the map", x.size(0), 4);
        Check.holds("not again", !x.viewRemove(0, 30));
        Check.holds("a key that is outside", !x.viewRemove(0, 20) && !x.viewRemove(0, 50));
        Check.due("that stays in the map", x.size(0), 4);
        Check.holds("the end that is counted", x.viewRemove(0, 40));
        x.open(0, 0, 10, true, 50, true);
        Check.holds("the greatest key of the map", x.viewRemove(0, 50));
        Check.holds("nor that again", !x.viewRemove(0, 50));
        Check.holds("the least key of the map", x.viewRemove(0, 10));
        Check.due("one is left", x.viewSize(0), 1);
        Check.refused("not open", x, Check.NONE, () -> x.viewRemove(1, 20) ? 1 : 0);
        for (int view : NO_VIEWS) {
            Check.refused("no view", x, Check.BOUNDS, () -> x.viewRemove(view, 20) ? 1 : 0);
        }
    }

    private static void viewNear() {
        Spanwarden x = tens();
        x.open(0, 0, 10, false, 50, false);
        int[][] due = {
            // number, f, c, h, l
            {30, 30, 30, 40, 20},
            {31, 30, 40, 40, 30},
        };
        for (int[] row : due) {
            for (int way = 0; way < 4; way++) {
                Check.due(
                        "near " + row[0], x.viewNear(0, row[0], "fchl".charAt(way)), row[way + 1]);
            }
        }
        for (int number : new int[] {50, 51, MOST}) {
            Check.due("below, from above", x.viewNear(0, number, 'f'), 40);
            Check.due("below, from above", x.viewNear(0, number, 'l'), 40);
            Check.refused("none", x, Check.NONE, () -> x.viewNear(0, number, 'c'));
            Check.refused("none", x, Check.NONE, () -> x.viewNear(0, number, 'h'));
        }
        for (int number : new int[] {10, 9, LEAST}) {
            Check.due("above, from below", x.viewNear(0, number, 'c'), 20);
            Check.due("above, from below", x.viewNear(0, number, 'h'), 20);
            Check.refused("none", x, Check.NONE, () -> x.viewNear(0, number, 'f'));
            Check.refused("none", x, Check.NONE, () -> x.viewNear(0, number, 'l'));
        }
        Check.refused("none above the last", x, Check.NONE, () -> x.viewNear(0, 40, 'h'));
        Check.refused("none below the first", x, Check.NONE, () -> x.viewNear(0, 20, 'l'));
        x.open(1, 0, 20, false, 20, false);
        for (char way : "fchl".toCharArray()) {
            Check.refused("a view of nothing", x, Check.NONE, () -> x.viewNear(1, 20, way));
            Check.refused("not open", x, Check.NONE, () -> x.viewNear(2, 20, way));
            for (int view : NO_VIEWS) {
                Check.refused("no view", x, Check.BOUNDS, () -> x.viewNear(view, 20, way));
            }
        }
        x.open(1, 0, LEAST, true, MOST, true);
        Check.due("the least key of the map", x.viewNear(1, 19, 'f'), 10);
        Check.due("the least key of the map", x.viewNear(1, LEAST, 'h'), 10);
        Check.due("the greatest key of the map", x.viewNear(1, MOST, 'l'), 50);
        Check.due("the greatest key of the map", x.viewNear(1, 50, 'c'), 50);
        Check.refused("no way", x, Check.ARGUMENT, () -> x.viewNear(0, 20, 'x'));
        Check.refused("way ahead of not open", x, Check.ARGUMENT, () -> x.viewNear(2, 20, 'x'));
        Check.refused("view ahead of way", x, Check.BOUNDS, () -> x.viewNear(4, 20, 'x'));
    }

    private static void viewEnd() {
        Spanwarden x = tens();
        x.open(0, 0, 10, false, 50, false);
        x.open(1, 0, 20, false, 20, false);
        Check.due("least", x.viewEnd(0, false), 20);
        Check.due("greatest", x.viewEnd(0, true), 40);
        for (boolean isLast : new boolean[] {false, true}) {
            Check.refused("no entries", x, Check.NONE, () -> x.viewEnd(1, isLast));
            Check.refused("not open", x, Check.NONE, () -> x.viewEnd(2, isLast));
            for (int view : NO_VIEWS) {
                Check.refused("no view", x, Check.BOUNDS, () -> x.viewEnd(view, isLast));
            }
        }
    }

    private static void viewPoll() {
        Spanwarden x = tens();
        x.open(0, 0, 10, false, 50, false);
        Check.due("first", x.viewPoll(0, false), 20);
        Check.due("its value", x.polled(), 2);
        Check.due("last", x.viewPoll(0, true), 40);
        Check.due("its value", x.polled(), 4);
        Check.due("the only one", x.viewPoll(0, true), 30);
        Check.due("those outside stay", x.size(0), 2);
        for (boolean isLast : new boolean[] {false, true}) {
            Check.refused("no entries", x, Check.NONE, () -> x.viewPoll(0, isLast));
            Check.refused("not open", x, Check.NONE, () -> x.viewPoll(2, isLast));
            for (int view : NO_VIEWS) {
                Check.refused("no view", x, Check.BOUNDS, () -> x.viewPoll(view, isLast));
            }
        }
    }

    private static void viewClear() {
        Spanwarden x = tens();
        x.open(0, 0, 10, false, 40, true);
        x.open(1, 0, 20, false, 20, false);
        Check.due("clear of nothing", x.viewClear(1), 0);
        Check.due("clear", x.viewClear(0), 3);
        Check.due("those outside stay", x.keyAt(0, 0, false), 10);
        Check.due("with their values", x.value(0, 50), 5);
        Check.due("clear again", x.viewClear(0), 0);
        Check.due("still open", x.viewSize(0), 0);
        Check.refused("not open", x, Check.NONE, () -> x.viewClear(2));
        for (int view : NO_VIEWS) {
            Check.refused("no view", x, Check.BOUNDS, () -> x.viewClear(view));
        }
    }

    private static void viewSize() {
        Spanwarden x = tens();
        x.open(0, 0, 10, false, 40, true);
        Check.due("size", x.viewSize(0), 3);
        Check.due("not open", x.viewSize(1), -1);
        for (int view : NO_VIEWS) {
            Check.refused("no view", x, Check.BOUNDS, () -> x.viewSize(view));
        }
    }

    private static void lies() {
        Spanwarden x = new Spanwarden();
        x.open(0, 0, 10, false, 40, true);
        Check.holds("inside", x.lies(0, 11) && x.lies(0, 40));
        Check.holds("outside", !x.lies(0, 10) && !x.lies(0, 41));
        Check.holds("far outside", !x.lies(0, LEAST) && !x.lies(0, MOST));
        x.open(0, 0, LEAST, true, MOST, false);
        Check.holds("the ends of numbers", x.lies(0, LEAST) && !x.lies(0, MOST));
        x.open(1, 0, 7, true, 7, true);
        Check.holds("one number", x.lies(1, 7) && !x.lies(1, 6) && !x.lies(1, 8));
        x.open(1, 0, 7, true, 7, false);
        Check.holds("half counted", !x.lies(1, 7));
        x.open(1, 0, 7, false, 7, false);
        Check.holds("not counted", !x.lies(1, 7));
        Check.refused("not open", x, Check.NONE, () -> x.lies(2, 7) ? 1 : 0);
        for (int view : NO_VIEWS) {
            Check.refused("no view", x, Check.BOUNDS, () -> x.lies(view, 7) ? 1 : 0);
        }
    }
}
