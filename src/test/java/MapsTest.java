/** Promises 1 to 14. */
public final class MapsTest {
    private static final int LEAST = Integer.MIN_VALUE;
    private static final int MOST = Integer.MAX_VALUE;
    private static final int[] NO_MAPS = {-1, 3, LEAST, MOST};

    public static void main(String[] args) {
        newObject();
        put();
        value();
        remove();
        near();
        nearAtTheEnds();
        end();
        poll();
        polled();
        drain();
        drainedRow();
        size();
        keyAt();
        mark();
        isLike();
        Check.end();
    }

    static Spanwarden with(int... entries) {
        Spanwarden x = new Spanwarden();
        for (int i = 0; i + 1 < entries.length; i += 2) {
            x.put(0, entries[i], entries[i + 1]);
        }
        return x;
    }

    static Spanwarden full(int map) {
        Spanwarden x = new Spanwarden();
        for (int key = 0; key < 60; key++) {
            // 7 is prime to 60: keys come in no order.
            Check.due("put of a new key", x.put(map, key * 7 % 60, key), key + 1);
        }
        return x;
    }

    private static void newObject() {
        Spanwarden x = new Spanwarden();
        for (int i = 0; i < 3; i++) {
            Check.due("size at first", x.size(i), 0);
            Check.due("steps at first", x.forget(i), 0);
        }
        for (int view = 0; view < 4; view++) {
            Check.due("view at first", x.viewSize(view), -1);
        }
        long sum = 7;
        for (int number : new int[] {0, 0, 0, -1, -1, -1, -1, 0, 0, 0}) {
            sum = sum * 31 + number;
        }
        Check.due("checksum at first", x.checksum(), sum);
        Spanwarden other = new Spanwarden();
        other.put(0, 1, 1);
        Check.due("objects share nothing", x.checksum(), sum);
    }

    private static void put() {
        Spanwarden x = full(1);
        Check.due("put of a key that is there", x.put(1, 30, -5), 60);
        Check.due("its value", x.value(1, 30), -5);
        Check.due("put of the least key", x.put(1, 0, 11), 60);
        Check.due("put of the greatest key", x.put(1, 59, 12), 60);
        Check.due("their values", x.value(1, 0) * 100 + x.value(1, 59), 1112);
        Check.refused("put of a 61st key", x, Check.STATE, () -> x.put(1, 60, 0));
        Check.refused("put of a 61st key below", x, Check.STATE, () -> x.put(1, -1, 0));
        Check.due("another map has room", x.put(0, 60, 0), 1);
        Check.due("least key", x.put(2, LEAST, MOST), 1);
        Check.due("greatest key", x.put(2, MOST, LEAST), 2);
        Check.due("value of the least key", x.value(2, LEAST), MOST);
        x.remove(1, 0);
        Check.due("put after a removal", x.put(1, 60, 0), 60);
        x.remove(1, 60);
        Check.refused("value of what was the greatest", x, Check.NONE, () -> x.value(1, 60));
        Check.refused("near what was the greatest", x, Check.NONE, () -> x.near(1, 60, 'c'));
        Check.due("put of it again", x.put(1, 60, 1), 60);
        for (int map : NO_MAPS) {
            Check.refused("put, no map", x, Check.BOUNDS, () -> x.put(map, 99, 0));
        }
    }

    private static void value() {
        Spanwarden x = with(5, 50, -5, -50, 0, 7);
        Check.due("value", x.value(0, 5), 50);
        Check.due("value", x.value(0, -5), -50);
        Check.refused("value, no key", x, Check.NONE, () -> x.value(0, 4));
        Check.refused("value, no key above", x, Check.NONE, () -> x.value(0, 6));
        Check.refused("value, no key, empty", x, Check.NONE, () -> x.value(1, 0));
        for (int map : NO_MAPS) {
            Check.refused("value, no map", x, Check.BOUNDS, () -> x.value(map, 5));
        }
    }

    private static void remove() {
        Spanwarden x = with(5, 50, -5, -50, 0, 7);
        Check.due("remove of no key", x.remove(0, 4), 3);
        Check.due("remove", x.remove(0, 0), 2);
        Check.due("the others stay", x.value(0, 5) + 3 * x.value(0, -5), 50 - 150);
        Check.due("remove again", x.remove(0, 0), 2);
        Check.due("remove the last one", x.remove(0, 5), 1);
        Check.due("remove the only one", x.remove(0, -5), 0);
        Check.due("remove of none", x.remove(0, -5), 0);
        for (int map : NO_MAPS) {
            Check.refused("remove, no map", x, Check.BOUNDS, () -> x.remove(map, 5));
        }
    }

    private static void near() {
        Spanwarden x = with(10, 1, 20, 2, 30, 3);
        int[][] due = {
            // number, f, c, h, l
            {15, 10, 20, 20, 10},
            {20, 20, 20, 30, 10},
            {19, 10, 20, 20, 10},
            {21, 20, 30, 30, 20},
        };
        for (int[] row : due) {
            for (int way = 0; way < 4; way++) {
                Check.due("near " + row[0], x.near(0, row[0], "fchl".charAt(way)), row[way + 1]);
            }
        }
        Check.refused("none at or below", x, Check.NONE, () -> x.near(0, 9, 'f'));
        Check.refused("none below", x, Check.NONE, () -> x.near(0, 10, 'l'));
        Check.refused("none at or above", x, Check.NONE, () -> x.near(0, 31, 'c'));
        Check.refused("none above", x, Check.NONE, () -> x.near(0, 30, 'h'));
        Check.refused("no such way", x, Check.ARGUMENT, () -> x.near(0, 20, 'g'));
        Check.refused("no such way, great letter", x, Check.ARGUMENT, () -> x.near(0, 20, 'F'));
        Check.refused("no such way ahead of none", x, Check.ARGUMENT, () -> x.near(1, 0, (char) 0));
        for (int map : NO_MAPS) {
            Check.refused("near, no map", x, Check.BOUNDS, () -> x.near(map, 20, 'f'));
            Check.refused("no map ahead of way", x, Check.BOUNDS, () -> x.near(map, 20, '?'));
        }
        for (char way : "fchl".toCharArray()) {
            Check.refused("near, empty", x, Check.NONE, () -> x.near(2, 0, way));
        }
    }

    private static void nearAtTheEnds() {
        Spanwarden x = with(LEAST, 1, 0, 2, MOST, 3);
        Check.due("floor of the greatest", x.near(0, MOST, 'f'), MOST);
        Check.due("lower of the greatest", x.near(0, MOST, 'l'), 0);
        Check.due("ceiling of the least", x.near(0, LEAST, 'c'), LEAST);
        Check.due("higher of the least", x.near(0, LEAST, 'h'), 0);
        Check.due("floor of -1", x.near(0, -1, 'f'), LEAST);
        Check.due("ceiling of 1", x.near(0, 1, 'c'), MOST);
        Check.refused("lower of the least", x, Check.NONE, () -> x.near(0, LEAST, 'l'));
        Check.refused("higher of the greatest", x, Check.NONE, () -> x.near(0, MOST, 'h'));
    }

    private static void end() {
        Spanwarden x = with(10, 1, -20, 2, 30, 3);
        Check.due("least", x.end(0, false), -20);
        Check.due("greatest", x.end(0, true), 30);
        Check.due("nothing goes", x.size(0), 3);
        for (boolean isLast : new boolean[] {false, true}) {
            Check.refused("end, empty", x, Check.NONE, () -> x.end(1, isLast));
            for (int map : NO_MAPS) {
                Check.refused("end, no map", x, Check.BOUNDS, () -> x.end(map, isLast));
            }
        }
    }

    private static void poll() {
        Spanwarden x = with(10, 1, -20, 2, 30, 3, 5, 4);
        Check.due("first", x.poll(0, false), -20);
        Check.due("its value", x.polled(), 2);
        Check.due("last", x.poll(0, true), 30);
        Check.due("its value", x.polled(), 3);
        Check.due("first", x.poll(0, false), 5);
        Check.due("last, the only one", x.poll(0, true), 10);
        Check.due("nothing is left", x.size(0), 0);
        for (boolean isLast : new boolean[] {false, true}) {
            Check.refused("poll, empty", x, Check.NONE, () -> x.poll(0, isLast));
            for (int map : NO_MAPS) {
                Check.refused("poll, no map", x, Check.BOUNDS, () -> x.poll(map, isLast));
            }
        }
        Check.due("polled stays", x.polled(), 1);
    }

    private static void polled() {
        Spanwarden x = with(10, 1, -20, 2, 30, 3, 40, 0);
        Check.refused("none polled", x, Check.NONE, x::polled);
        x.open(0, 0, 0, true, 30, true);
        x.remove(0, -20);
        Check.refused("none polled, one removed", x, Check.NONE, x::polled);
        x.viewPoll(0, true);
        Check.due("polled of a view", x.polled(), 3);
        Check.due("polled again", x.polled(), 3);
        x.drain(1, false);
        Check.due("polled after an empty drain", x.polled(), 3);
        x.drain(0, false);
        Check.due("polled of a drain, a value of 0", x.polled(), 0);
        x.put(0, 1, 9);
        x.put(0, 2, 8);
        x.viewClear(0);
        Check.due("clearing polls nothing", x.polled(), 0);
        x.put(0, 1, 9);
        x.put(0, 2, 8);
        x.drain(0, true);
        Check.due("polled of a falling drain", x.polled(), 9);
    }

    private static void drain() {
        Spanwarden x = with(10, 1, -20, 2, 30, 3);
        Check.due("drain", x.drain(0, false), 3);
        Check.due("the row rises", x.drained(0), -20);
        Check.due("the row rises", x.drained(1), 10);
        Check.due("the row rises", x.drained(2), 30);
        Check.due("nothing is left", x.size(0), 0);
        x.put(1, 4, 1);
        x.put(1, 6, 1);
        Check.due("drain, last ones", x.drain(1, true), 2);
        Check.due("the row falls", x.drained(0), 6);
        Check.due("the row falls", x.drained(1), 4);
        Check.refused("the row is shorter", x, Check.BOUNDS, () -> x.drained(2));
        Check.due("drain of nothing", x.drain(1, true), 0);
        Check.refused("the row is empty then", x, Check.BOUNDS, () -> x.drained(0));
        Spanwarden y = full(2);
        Check.due("drain of a full one", y.drain(2, true), 60);
        for (int row = 0; row < 60; row++) {
            Check.due("the long row", y.drained(row), 59 - row);
        }
        for (int map : NO_MAPS) {
            Check.refused("drain, no map", y, Check.BOUNDS, () -> y.drain(map, false));
        }
    }

    private static void drainedRow() {
        Spanwarden x = with(10, 1, -20, 2);
        for (int index : new int[] {0, -1, 1, LEAST, MOST}) {
            Check.refused("row at first", x, Check.BOUNDS, () -> x.drained(index));
        }
        x.poll(0, false);
        Check.refused("a poll is not in the row", x, Check.BOUNDS, () -> x.drained(0));
        x.drain(0, false);
        x.put(0, 3, 3);
        Check.due("the row stays", x.drained(0), 10);
        for (int index : new int[] {-1, 1, 60, LEAST, MOST}) {
            Check.refused("no place in the row", x, Check.BOUNDS, () -> x.drained(index));
        }
    }

    private static void size() {
        Spanwarden x = with(10, 1, -20, 2, 10, 3);
        Check.due("size", x.size(0), 2);
        Check.due("size of another one", x.size(1), 0);
        for (int map : NO_MAPS) {
            Check.refused("size, no map", x, Check.BOUNDS, () -> x.size(map));
        }
    }

    private static void keyAt() {
        Spanwarden x = with(10, 1, -20, 2, 30, 3);
        int[] keys = {-20, 10, 30};
        for (int index = 0; index < 3; index++) {
            Check.due("key at", x.keyAt(0, index, false), keys[index]);
            Check.due("key at, falling", x.keyAt(0, index, true), keys[2 - index]);
        }
        for (boolean isFalling : new boolean[] {false, true}) {
            for (int index : new int[] {-1, 3, 60, 120, LEAST, MOST}) {
                Check.refused(
                        "no place", x, Check.BOUNDS, () -> x.keyAt(0, index, isFalling));
            }
            Check.refused("no place, empty", x, Check.BOUNDS, () -> x.keyAt(1, 0, isFalling));
            for (int map : NO_MAPS) {
                Check.refused("key, no map", x, Check.BOUNDS, () -> x.keyAt(map, 0, isFalling));
            }
        }
    }

    private static void mark() {
        Spanwarden x = with(3, 5, 9, 6, -2, 7);
        Check.due("mark", x.mark(0), (3 ^ 5) + (9 ^ 6) + (-2 ^ 7));
        Check.due("mark of none", x.mark(1), 0);
        x.put(2, MOST, 0);
        x.put(2, MOST - 1, 0);
        Check.due("mark goes round", x.mark(2), MOST + (MOST - 1));
        for (int map : NO_MAPS) {
            Check.refused("mark, no map", x, Check.BOUNDS, () -> x.mark(map));
        }
    }

    private static void isLike() {
        Spanwarden x = with(3, 5, 9, 6);
        Check.holds("like itself", x.isLike(0, 0));
        Check.holds("empty ones are like", x.isLike(1, 2));
        Check.holds("more is not like", !x.isLike(0, 1) && !x.isLike(1, 0));
        x.put(1, 9, 6);
        Check.holds("fewer is not like", !x.isLike(0, 1) && !x.isLike(1, 0));
        x.put(1, 3, 5);
        Check.holds("the same entries", x.isLike(0, 1) && x.isLike(1, 0));
        x.put(1, 3, 4);
        Check.holds("another value", !x.isLike(0, 1));
        x.remove(1, 3);
        x.put(1, 4, 5);
        Check.holds("another key", !x.isLike(0, 1));
        x.remove(1, 4);
        x.put(1, 5, 3);
        Check.holds("key and value changed places", !x.isLike(0, 1));
        for (int map : NO_MAPS) {
            Check.refused("like, no map", x, Check.BOUNDS, () -> x.isLike(map, 0) ? 1 : 0);
            Check.refused("like, no other", x, Check.BOUNDS, () -> x.isLike(0, map) ? 1 : 0);
        }
    }
}
