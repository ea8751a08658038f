/** Objects that tests begin with. */
final class Made {
    private Made() {}

    /** An object with entries, key and value by turns, in one map. */
    static Spanwarden with(int map, int... entries) {
        Spanwarden x = new Spanwarden();
        put(x, map, entries);
        return x;
    }

    static void put(Spanwarden x, int map, int... entries) {
        for (int i = 0; i + 1 < entries.length; i += 2) {
            x.put(map, entries[i], entries[i + 1]);
        }
    }

    /** One map is full: the even keys from 0 to 118, each with its half as value. */
    static Spanwarden full(int map) {
        Spanwarden x = new Spanwarden();
        for (int i = 0; i < 60; i++) {
            // 7 is prime to 60: keys come in no order.
            int half = i * 7 % 60;
            x.put(map, 2 * half, half);
        }
        return x;
    }

    /** Maps that are told apart by how many entries they have, and by their keys and values. */
    static Spanwarden threeMaps() {
        Spanwarden x = with(0, 1, 10, 5, 50);
        put(x, 1, 2, 20, 6, 60, 9, 90);
        put(x, 2, 3, 30);
        return x;
    }

    /** Map 0 has the keys 10 to 90 by tens, each with its tenth as value. */
    static Spanwarden tens() {
        Spanwarden x = new Spanwarden();
        for (int tenth = 1; tenth <= 9; tenth++) {
            x.put(0, 10 * tenth, tenth);
        }
        return x;
    }

    /** Tens, and views that are told apart by how many entries they have: 2, 3, 4, 1. */
    static Spanwarden fourViews() {
        Spanwarden x = tens();
        x.put(2, 7, 70);
        x.open(0, 0, 10, true, 20, true);
        x.open(1, 0, 30, true, 50, true);
        x.open(2, 0, 60, true, 90, true);
        x.open(3, 2, 0, true, 9, true);
        return x;
    }

    /** Histories that are told apart by how many steps they have: 1, 2, 3. */
    static Spanwarden threeHistories() {
        Spanwarden x = new Spanwarden();
        x.step(0, 'p', 100, 1);
        x.step(1, 'p', 200, 2);
        x.step(1, 'p', 201, 3);
        x.step(2, 'p', 100, 4);
        x.step(2, 'p', 200, 5);
        x.step(2, 'p', 302, 6);
        return x;
    }

    /** Something of each kind, so that what is changed without right shows. */
    static Spanwarden busy() {
        Spanwarden x = tens();
        put(x, 1, -5, 50, 5, 51);
        x.open(0, 0, 20, false, 80, true);
        x.cut(1, 0, true, 60, false);
        x.open(2, 1, -10, true, 10, true);
        x.step(0, 's', 10, 1);
        x.step(0, 'r', 20, 0);
        x.step(1, 'a', 99, 7);
        put(x, 2, 1, 11, 2, 12);
        x.drain(2, true);
        return x;
    }
}
