/** Promises 25 to 31. */
public final class HistoriesTest {
    private static final int LEAST = Integer.MIN_VALUE;
    private static final int MOST = Integer.MAX_VALUE;
    private static final int[] NO_PLACES = {-1, 3, LEAST, MOST};

    public static void main(String[] args) {
        step();
        forget();
        play();
        playIsRefused();
        playBoth();
        playBothTurnsRound();
        playBothIsRefused();
        meet();
        opposite();
        oppositeOfItself();
        combine();
        combineIsRefused();
        Check.end();
    }

    private static void step() {
        Spanwarden x = new Spanwarden();
        String kinds = "prsax";
        for (int steps = 0; steps < 30; steps++) {
            Check.due("step", x.step(1, kinds.charAt(steps % 5), steps, -steps), steps + 1);
        }
        Check.refused("a 31st step", x, Check.STATE, () -> x.step(1, 'p', 0, 0));
        Check.refused("kind ahead of full", x, Check.ARGUMENT, () -> x.step(1, 'q', 0, 0));
        Check.due("another history has room", x.step(0, 'x', LEAST, MOST), 1);
        for (char kind : new char[] {'q', 'P', 0, 'g', (char) ('p' + 256)}) {
            Check.refused("no such kind", x, Check.ARGUMENT, () -> x.step(0, kind, 0, 0));
        }
        for (int history : NO_PLACES) {
            Check.refused("no history", x, Check.BOUNDS, () -> x.step(history, 'q', 0, 0));
        }
    }

    private static void forget() {
        Spanwarden x = new Spanwarden();
        x.step(1, 'p', 1, 1);
        x.step(1, 'p', 2, 1);
        Check.due("forget", x.forget(1), 2);
        Check.due("forget again", x.forget(1), 0);
        Check.due("nothing is left to play", x.play(1, 0), 0);
        Check.due("nothing was played", x.size(0), 0);
        Check.due("steps count anew", x.step(1, 'p', 3, 1), 1);
        for (int history : NO_PLACES) {
            Check.refused("no history", x, Check.BOUNDS, () -> x.forget(history));
        }
    }

    /** Plays one step on a map with the entry 1, 10; tells its answer and the entries. */
    private static void playOne(char kind, int key, int number, int changes, int... entries) {
        Spanwarden x = MapsTest.with(1, 10);
        x.step(0, kind, key, number);
        Check.due("changes by " + kind, x.play(0, 0), changes);
        Check.due("entries after " + kind, x.size(0), entries.length / 2);
        for (int i = 0; i < entries.length; i += 2) {
            Check.due("value after " + kind, x.value(0, entries[i]), entries[i + 1]);
        }
    }

    private static void play() {
        playOne('p', 1, 11, 1, 1, 11);
        playOne('p', 1, 10, 0, 1, 10);
        playOne('p', 2, 20, 1, 1, 10, 2, 20);
        playOne('r', 1, 5, 1);
        playOne('r', 2, 5, 0, 1, 10);
        playOne('s', 1, 5, 1, 1, 15);
        playOne('s', 1, 0, 0, 1, 10);
        playOne('s', 1, MOST, 1, 1, MOST + 10);
        playOne('s', 2, 0, 1, 1, 10, 2, 0);
        playOne('s', 2, 5, 1, 1, 10, 2, 5);
        playOne('a', 1, 5, 0, 1, 10);
        playOne('a', 2, 5, 1, 1, 10, 2, 5);
        playOne('x', 1, 5, 1, 1, 5);
        playOne('x', 1, 10, 0, 1, 10);
        playOne('x', 2, 5, 0, 1, 10);
        Spanwarden x = new Spanwarden();
        x.step(2, 'p', 7, 1);
        x.step(2, 'r', 7, 0);
        x.step(2, 'a', 7, 2);
        x.step(2, 's', 7, 3);
        x.step(2, 'x', 7, 5);
        Check.due("steps one by one", x.play(2, 1), 4);
        Check.due("what comes of them", x.value(1, 7), 5);
        x.put(1, 7, 6);
        Check.due("the history stays", x.play(2, 1), 4);
        Check.due("with what comes of it", x.value(1, 7), 5);
    }

    private static void playIsRefused() {
        Spanwarden x = MapsTest.full(0);
        x.step(0, 'p', 5, 1);
        Check.due("a key that is there", x.play(0, 0), 1);
        // Keys count, whatever becomes of them: even one that is only taken away.
        x.step(0, 'r', 60, 0);
        Check.refused("a 61st key", x, Check.STATE, () -> x.play(0, 0));
        x.remove(0, 59);
        Check.due("just 60 together", x.play(0, 0), 0);
        x.step(0, 'x', 60, 7);
        Check.due("the same key counts once", x.play(0, 0), 0);
        x.step(0, 'r', 0, 0);
        x.step(0, 'a', 61, 0);
        Check.refused("room made on the way does not count", x, Check.STATE, () -> x.play(0, 0));
        for (int place : NO_PLACES) {
            Check.refused("no history", x, Check.BOUNDS, () -> x.play(place, 0));
            Check.refused("no map", x, Check.BOUNDS, () -> x.play(0, place));
        }
        Spanwarden y = new Spanwarden();
        for (int key = 0; key < 30; key++) {
            y.put(0, -1 - key, 0);
            y.step(0, 's', key, 1);
        }
        Check.due("30 entries and 30 keys", y.play(0, 0), 30);
        Check.due("are 60", y.size(0), 60);
    }

    /** The order in which steps come, told by a value that each step leaves behind. */
    private static void playBoth() {
        Spanwarden x = new Spanwarden();
        for (int i = 1; i <= 3; i++) {
            x.step(0, 'p', 1, i);
            x.step(1, 's', 1, 10);
        }
        int[][] due = {
            // turns, value: 0 is history 0, which sets 1, 2, 3; 1 is history 1, which adds 10
            {0, 33},
            {0b111, 3},
            {0b110, 13},
            {0b101010, 13},
            {0b010101, 3},
            {0b001110, 3},
            {0b111000, 33},
            {0b011010, 3},
            {0b011100, 3},
            {0b110100, 23},
            {0b100110, 13},
            {-1, 3},
        };
        for (int[] row : due) {
            x.drain(0, false);
            Check.due("entries", x.playBoth(0, 1, row[0], 0), 1);
            Check.due("turns " + Integer.toBinaryString(row[0]), x.value(0, 1), row[1]);
        }
        x.drain(0, false);
        Check.due("the other way round", x.playBoth(1, 0, 0b111, 0), 1);
        Check.due("its value", x.value(0, 1), 33);
        Check.due("one with an empty one", x.playBoth(2, 0, 0, 1), 1);
        Check.due("its value", x.value(1, 1), 3);
        Check.due("empty ones", x.playBoth(2, 2, 5, 1), 1);
        x.step(2, 's', 4, 1);
        x.step(2, 's', 5, 2);
        Check.due("one with itself", x.playBoth(2, 2, 0b0110, 2), 2);
        Check.due("each step twice", x.value(2, 4) * 10 + x.value(2, 5), 24);
        x.forget(0);
        x.step(0, 'r', 4, 0);
        x.step(0, 'r', 5, 0);
        Check.due("how many it has then, not how many changed", x.playBoth(0, 0, 1, 2), 0);
    }

    private static void playBothTurnsRound() {
        Spanwarden x = new Spanwarden();
        for (int i = 0; i < 30; i++) {
            x.step(0, 'p', 1, 0);
            x.step(1, 's', 1, 1);
        }
        // Turn 32 is bit 0 again. With bit 0 alone being 1, history 1 goes first, then 30 times
        // history 0 up to turn 30, which has none left in turn 31: 29 steps of history 1 remain.
        Check.due("entries", x.playBoth(0, 1, 1, 0), 1);
        Check.due("30 and the rest", x.value(0, 1), 29);
        // 16 turns of history 1, then 16 of history 0, and so again: 14 of each come after that.
        Check.due("entries", x.playBoth(0, 1, 0x0000FFFF, 1), 1);
        Check.due("the last ones are of history 0", x.value(1, 1), 0);
        Check.due("entries", x.playBoth(0, 1, 0xFFFF0000, 2), 1);
        Check.due("the last ones are of history 1", x.value(2, 1), 14);
        // Bits 0 to 3 and 31 are 1: turn 31 is of history 1, and so are turns 32 to 35; history 0
        // has 27 behind it by turn 30 and its last 3 in turns 36 to 38; 21 of history 1 remain.
        Check.due("entries", x.playBoth(0, 1, 0x8000000F, 0), 1);
        Check.due("the sign is a bit", x.value(0, 1), 21);
    }

    private static void playBothIsRefused() {
        Spanwarden x = new Spanwarden();
        for (int key = 0; key < 30; key++) {
            x.step(0, 'p', key, 0);
            x.step(1, 'p', 30 + key, 0);
        }
        x.put(0, 59, 1);
        Check.due("60 together", x.playBoth(0, 1, 12345, 0), 60);
        x.put(1, 60, 1);
        Check.refused("61 together", x, Check.STATE, () -> x.playBoth(0, 1, 0, 1));
        Check.due("one of them fits", x.playBoth(0, 0, 0, 1), 31);
        Check.refused("the other one still not", x, Check.STATE, () -> x.playBoth(1, 1, 0, 1));
        x.forget(1);
        x.step(1, 'r', 61, 0);
        x.put(2, 62, 0);
        Check.due("keys that are taken away count", x.playBoth(0, 1, 0, 2), 31);
        for (int key = 100; key < 129; key++) {
            x.put(2, key, 0);
        }
        Check.refused("even if absent", x, Check.STATE, () -> x.playBoth(0, 1, 0, 2));
        Check.refused("in both orders", x, Check.STATE, () -> x.playBoth(1, 0, 0, 2));
        for (int place : NO_PLACES) {
            Check.refused("no one", x, Check.BOUNDS, () -> x.playBoth(place, 1, 0, 1));
            Check.refused("no other", x, Check.BOUNDS, () -> x.playBoth(0, place, 0, 1));
            Check.refused("no map", x, Check.BOUNDS, () -> x.playBoth(0, 1, 0, place));
        }
    }

    private static void meet() {
        Spanwarden x = new Spanwarden();
        Check.due("empty ones", x.meet(0, 1), 0);
        for (int key : new int[] {4, 4, LEAST, 7, 4}) {
            x.step(0, 'p', key, 1);
        }
        Check.due("with an empty one", x.meet(0, 1), 0);
        for (int key : new int[] {7, 5, 4, 4, MOST}) {
            x.step(1, 'r', key, 2);
        }
        Check.due("each key once", x.meet(0, 1), 2);
        Check.due("both ways", x.meet(1, 0), 2);
        Check.due("with itself", x.meet(0, 0), 3);
        for (int place : NO_PLACES) {
            Check.refused("no one", x, Check.BOUNDS, () -> x.meet(place, 1));
            Check.refused("no other", x, Check.BOUNDS, () -> x.meet(0, place));
        }
    }

    /** The steps of a history stand in the checksum alone. */
    private static void stepsAre(String what, Spanwarden x, int history, int... steps) {
        Spanwarden y = new Spanwarden();
        for (int i = 0; i < 3; i++) {
            Spanwarden at = y;
            for (int step = 0; i == history && step < steps.length; step += 3) {
                at.step(i, (char) steps[step], steps[step + 1], steps[step + 2]);
            }
        }
        for (int other = 0; other < 3; other++) {
            x.drain(other, false);
            if (other != history) {
                x.forget(other);
            }
        }
        Check.due(what, x.checksum(), y.checksum());
    }

    private static void opposite() {
        Spanwarden x = MapsTest.with(1, 10, 5, 50);
        x.step(0, 's', 5, 1);
        x.step(0, 'r', 3, 8);
        x.step(0, 'x', 5, 2);
        x.step(0, 'a', -7, 4);
        x.step(1, 'p', 99, 99);
        Check.due("opposite", x.opposite(0, 0, 1), 3);
        long before = x.mark(0);
        x.play(0, 0);
        Check.holds("played", x.mark(0) != before);
        x.play(1, 0);
        Check.due("taken back", x.mark(0), before);
        Check.due("and no more", x.size(0), 2);
        stepsAre("by rising keys", x, 1, 'r', -7, 0, 'r', 3, 0, 'p', 5, 50);
        Check.due("of an empty one", x.opposite(0, 0, 1), 0);
        Check.due("it is empty then", x.forget(1), 0);
        for (int place : NO_PLACES) {
            Check.refused("no one", x, Check.BOUNDS, () -> x.opposite(place, 0, 1));
            Check.refused("no map", x, Check.BOUNDS, () -> x.opposite(0, place, 1));
            Check.refused("no other", x, Check.BOUNDS, () -> x.opposite(0, 0, place));
        }
    }

    private static void oppositeOfItself() {
        Spanwarden x = MapsTest.with(2, 22);
        x.step(2, 'p', 9, 1);
        x.step(2, 'p', 2, 1);
        x.step(2, 'p', 9, 2);
        Check.due("opposite, into itself", x.opposite(2, 0, 2), 2);
        stepsAre("by rising keys", x, 2, 'p', 2, 22, 'r', 9, 0);
        Spanwarden y = new Spanwarden();
        for (int key = 30; key > 0; key--) {
            y.step(0, 'p', key, key);
        }
        Check.due("30 keys", y.opposite(0, 0, 0), 30);
        Check.due("nothing to take away", y.play(0, 0), 0);
    }

    private static void combine() {
        for (char how : new char[] {'s', 'g', 'l'}) {
            Spanwarden x = MapsTest.with(1, 5, 2, -5, 3, MOST, 9, 4);
            x.put(1, 1, 7);
            x.put(1, 2, -7);
            x.put(1, 3, 1);
            x.put(1, 4, 44);
            Check.due("combine", x.combine(0, 1, how), 5);
            Check.due("1 by " + how, x.value(1, 1), how == 's' ? 12 : how == 'g' ? 7 : 5);
            Check.due("2 by " + how, x.value(1, 2), how == 's' ? -12 : how == 'g' ? -5 : -7);
            Check.due("3 by " + how, x.value(1, 3), how == 's' ? LEAST : how == 'g' ? MOST : 1);
            Check.due("4 by " + how, x.value(1, 4), 44);
            Check.due("9 by " + how, x.value(1, 9), 4);
            Check.due("the one stays", x.mark(0), (1 ^ 5) + (2 ^ -5) + (3 ^ MOST) + (9 ^ 4));
            Check.due("an empty one", x.combine(2, 1, how), 5);
            Check.due("to an empty one", x.combine(0, 2, how), 4);
            Check.holds("is a copy", x.isLike(0, 2));
        }
    }

    private static void combineIsRefused() {
        Spanwarden x = MapsTest.full(0);
        x.put(1, 0, 100);
        x.put(1, 59, 100);
        Check.due("60 together", x.combine(0, 1, 'g'), 60);
        x.put(2, 60, 0);
        Check.refused("61 together", x, Check.STATE, () -> x.combine(0, 2, 's'));
        Check.refused("61 together", x, Check.STATE, () -> x.combine(2, 0, 's'));
        for (char how : new char[] {'S', 'x', 'f', 0, (char) ('s' + 256)}) {
            Check.refused("no way", x, Check.ARGUMENT, () -> x.combine(0, 1, how));
            Check.refused("way ahead of room", x, Check.ARGUMENT, () -> x.combine(0, 2, how));
        }
        for (int map = 0; map < 3; map++) {
            int same = map;
            Check.refused("with itself", x, Check.ARGUMENT, () -> x.combine(same, same, 's'));
        }
        for (int place : NO_PLACES) {
            Check.refused("no one", x, Check.BOUNDS, () -> x.combine(place, 0, 's'));
            Check.refused("no other", x, Check.BOUNDS, () -> x.combine(0, place, '?'));
            Check.refused("ahead of the same", x, Check.BOUNDS, () -> x.combine(place, place, 's'));
        }
    }
}
