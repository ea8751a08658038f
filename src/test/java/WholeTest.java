import java.lang.reflect.Array;
import java.lang.reflect.Field;

/** Promises 32 to 35. */
public final class WholeTest {
    private static final int LEAST = Integer.MIN_VALUE;
    private static final int MOST = Integer.MAX_VALUE;
    private static final int[] NO_MAPS = {-1, 3, LEAST, MOST};

    public static void main(String[] args) throws ReflectiveOperationException {
        fullShare();
        meanKey();
        checksum();
        isSound();
        isSoundSeesDisorder();
        isSoundWhenFull();
        Check.end();
    }

    private static void fullShare() {
        Spanwarden x = new Spanwarden();
        Check.due("share of none", x.fullShare(0), 0f);
        for (int key = 1; key <= 60; key++) {
            x.put(0, key, 0);
            Check.due("share of " + key, x.fullShare(0), (float) key / 60f);
        }
        Check.due("a share is a float", x.fullShare(0), 1f);
        Check.due("share of another one", x.fullShare(2), 0f);
        for (int map : NO_MAPS) {
            Check.refused("share, no map", x, Check.BOUNDS, () -> (long) x.fullShare(map));
        }
    }

    private static void meanKey() {
        Spanwarden x = MapsTest.with(1, 100, 2, 100, 4, 100);
        Check.due("mean", x.meanKey(0), 7.0 / 3.0);
        x.put(1, MOST, 0);
        x.put(1, MOST - 1, 0);
        Check.due("the sum is a long", x.meanKey(1), ((double) MOST * 2 - 1) / 2);
        x.put(2, -3, 0);
        x.put(2, 0, 0);
        Check.due("mean below 0", x.meanKey(2), -1.5);
        x.put(2, 9, 0);
        x.remove(2, 9);
        Check.due("what is gone does not count", x.meanKey(2), -1.5);
        x.drain(2, false);
        Check.refused("mean of none", x, Check.ARITHMETIC, () -> (long) x.meanKey(2));
        for (int map : NO_MAPS) {
            Check.refused("mean, no map", x, Check.BOUNDS, () -> (long) x.meanKey(map));
        }
    }

    private static long sumOf(long... numbers) {
        long sum = 7;
        for (long number : numbers) {
            sum = 31 * sum + number;
        }
        return sum;
    }

    private static void checksum() {
        Spanwarden x = MapsTest.with(9, 90, -2, 20, 4, LEAST);
        x.put(2, 1, 1);
        x.open(1, 0, -2, false, 9, true);
        x.open(2, 1, 0, true, 0, true);
        x.step(1, 's', 5, -6);
        x.step(1, 'x', 4, MOST);
        long due =
                sumOf(
                        3, -2, 20, 4, LEAST, 9, 90,
                        0,
                        1, 1, 1,
                        -1,
                        2, 4, 9,
                        0,
                        -1,
                        0,
                        2, 's', 5, -6, 'x', 4, MOST,
                        0);
        Check.due("checksum", x.checksum(), due);
        Check.due("checksum again", x.checksum(), due);
        x.open(0, 0, 4, false, 4, false);
        Check.due(
                "checksum with a view of nothing",
                x.checksum(),
                sumOf(
                        3, -2, 20, 4, LEAST, 9, 90, 0, 1, 1, 1, 0, 2, 4, 9, 0, -1, 0, 2, 's', 5, -6,
                        'x', 4, MOST, 0));
    }

    private static void isSound() {
        Spanwarden x = MapsTest.with(LEAST, 5, MOST, 6, 0, 7, 1, 8, 3, 9);
        Check.holds("sound at first", new Spanwarden().isSound());
        x.put(1, 0, 1);
        x.open(0, 0, LEAST, false, 1, true);
        x.open(1, 0, 1, false, 1, false);
        x.cut(2, 0, false, 0, true);
        x.step(0, 'p', 1, 2);
        x.step(0, 's', 3, 2);
        x.step(1, 'r', 0, 0);
        x.step(2, 'x', 1, 9);
        x.poll(0, true);
        x.drain(1, false);
        String before = Check.stateOf(x);
        Check.holds("sound", x.isSound());
        Check.holds("nothing is changed", before.equals(Check.stateOf(x)));
    }

    /** Only a state that no call brings about is not sound, so it is made here by force. */
    private static void isSoundSeesDisorder() throws ReflectiveOperationException {
        Spanwarden x = MapsTest.with(1, 5, 2, 6, 3, 7);
        int[] keys = (int[]) fieldOf(Array.get(fieldOf(x, "maps"), 0), "keys");
        keys[0] = 2;
        Check.holds("a key twice is not sound", !x.isSound());
        keys[0] = 3;
        Check.holds("keys out of order are not sound", !x.isSound());
        keys[0] = 1;
        Check.holds("sound again", x.isSound());
    }

    private static Object fieldOf(Object owner, String name) throws ReflectiveOperationException {
        Field field = owner.getClass().getDeclaredField(name);
        field.setAccessible(true);
        return field.get(owner);
    }

    private static void isSoundWhenFull() {
        Spanwarden x = new Spanwarden();
        for (int key = 0; key < 60; key++) {
            x.put(0, key, key * 1_000_003);
            x.put(1, 100 + key, key * -77_777_777);
            x.put(2, 30 + key, key);
        }
        for (int key = 0; key < 30; key++) {
            x.step(0, "prsax".charAt(key % 5), 200 + key, key);
            x.step(1, "prsax".charAt(key % 5), 300 + key, key);
            x.step(2, "sxpra".charAt(key % 5), key, key);
        }
        String before = Check.stateOf(x);
        Check.holds("sound when full", x.isSound());
        Check.holds("nothing is changed", before.equals(Check.stateOf(x)));
    }
}
