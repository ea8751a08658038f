import java.util.NoSuchElementException;

/**
 * Three sorted maps of ints, views of them and histories of steps, as ../shared/DOC.md promises
 * them. All rows are made with the object; no call makes another one.
 */
public final class Spanwarden {
    private static final int MAPS = 3;
    private static final int ENTRIES = 60;
    private static final int VIEWS = 4;
    private static final int CUTS = 12;
    private static final int HISTORIES = 3;
    private static final int STEPS = 30;

    // isSound() tries on copies what the face refuses for want of room: a full map takes in
    // another full one, or the keys of two full histories.
    private static final int ROOM = 2 * ENTRIES;

    // The greatest power of two in ROOM: halved leaps from here reach every place.
    private static final int LONGEST_LEAP = 64;

    private final Table[] maps = new Table[MAPS];
    private final View[] views = new View[VIEWS];
    private final History[] histories = new History[HISTORIES];
    private final Bench bench = new Bench();
    private final int[] drainedKeys = new int[ENTRIES];
    private int drainedCount;
    private boolean hasPolled;
    private int polledValue;

    public Spanwarden() {
        for (int map = 0; map < maps.length; map++) {
            maps[map] = new Table();
        }
        for (int view = 0; view < views.length; view++) {
            views[view] = new View();
        }
        for (int history = 0; history < histories.length; history++) {
            histories[history] = new History();
        }
    }

    public int put(int map, int key, int value)
            throws IndexOutOfBoundsException, IllegalStateException {
        Table table = mapAt(map);
        putWithin(table, key, value);
        return table.count;
    }

    public int value(int map, int key) throws IndexOutOfBoundsException, NoSuchElementException {
        Table table = mapAt(map);
        int place = table.placeOf(key);
        if (place < 0) {
            throw new NoSuchElementException("the map has no such key");
        }
        return table.values[place];
    }

    public int remove(int map, int key) throws IndexOutOfBoundsException {
        Table table = mapAt(map);
        table.drop(key);
        return table.count;
    }

    public int near(int map, int number, char how)
            throws IndexOutOfBoundsException, IllegalArgumentException, NoSuchElementException {
        Table table = mapAt(map);
        if (!isNearWay(how)) {
            throw new IllegalArgumentException("no such way");
        }
        int place = table.placeNear(number, how, 0, table.count);
        if (place < 0) {
            throw new NoSuchElementException("the map has no such near key");
        }
        return table.keys[place];
    }

    public int end(int map, boolean isLast)
            throws IndexOutOfBoundsException, NoSuchElementException {
        Table table = mapAt(map);
        return table.keys[endPlace(0, table.count, isLast)];
    }

    public int poll(int map, boolean isLast)
            throws IndexOutOfBoundsException, NoSuchElementException {
        Table table = mapAt(map);
        return pollAt(table, endPlace(0, table.count, isLast));
    }

    public int polled() throws NoSuchElementException {
        if (!hasPolled) {
            throw new NoSuchElementException("no entry was polled");
        }
        return polledValue;
    }

    public int drain(int map, boolean isLast) throws IndexOutOfBoundsException {
        Table table = mapAt(map);
        int row = 0;
        for (; row < drainedKeys.length && table.count > 0; row++) {
            drainedKeys[row] = pollAt(table, isLast ? table.count - 1 : 0);
        }
        drainedCount = row;
        return row;
    }

    public int drained(int index) throws IndexOutOfBoundsException {
        if (index < 0 || index >= drainedCount) {
            throw new IndexOutOfBoundsException("no such place in the row");
        }
        return drainedKeys[index];
    }

    public int size(int map) throws IndexOutOfBoundsException {
        return mapAt(map).count;
    }

    public int keyAt(int map, int index, boolean isFalling) throws IndexOutOfBoundsException {
        Table table = mapAt(map);
        if (index < 0 || index >= table.count) {
            throw new IndexOutOfBoundsException("no such place in the map");
        }
        return table.keys[isFalling ? table.count - 1 - index : index];
    }

    public int mark(int map) throws IndexOutOfBoundsException {
        Table table = mapAt(map);
        int sum = 0;
        for (int place = 0; place < table.count; place++) {
            sum += table.keys[place] ^ table.values[place];
        }
        return sum;
    }

    public boolean isLike(int map, int other) throws IndexOutOfBoundsException {
        Table table = mapAt(map);
        return table.isSame(mapAt(other));
    }

    public int open(int view, int map, int from, boolean isFrom, int to, boolean isTo)
            throws IndexOutOfBoundsException, IllegalArgumentException {
        View opened = viewAt(view);
        Table table = mapAt(map);
        if (to < from) {
            throw new IllegalArgumentException("the span ends below where it begins");
        }
        opened.becomeSpan(table, from, isFrom, to, isTo);
        return opened.countEntries();
    }

    public int cut(int view, int other, boolean isHead, int number, boolean isIn)
            throws IndexOutOfBoundsException, NoSuchElementException, IllegalArgumentException,
                    IllegalStateException {
        View made = viewAt(view);
        View whole = viewAt(other);
        refuseClosed(whole);
        if (!whole.covers(number)) {
            throw new IllegalArgumentException("the number does not lie in the span");
        }
        if (whole.cuts >= CUTS) {
            throw new IllegalStateException("no more cuts behind one another");
        }
        made.becomeCut(whole, isHead, number, isIn);
        return made.countEntries();
    }

    public int viewPut(int view, int key, int value)
            throws IndexOutOfBoundsException, NoSuchElementException, IllegalArgumentException,
                    IllegalStateException {
        View seen = viewAt(view);
        Table table = sourceOf(seen);
        if (!seen.covers(key)) {
            throw new IllegalArgumentException("the key does not lie in the span");
        }
        putWithin(table, key, value);
        return seen.countEntries();
    }

    public boolean viewRemove(int view, int key)
            throws IndexOutOfBoundsException, NoSuchElementException {
        View seen = viewAt(view);
        Table table = sourceOf(seen);
        return seen.covers(key) && table.drop(key);
    }

    public int viewNear(int view, int number, char how)
            throws IndexOutOfBoundsException, IllegalArgumentException, NoSuchElementException {
        View seen = viewAt(view);
        if (!isNearWay(how)) {
            throw new IllegalArgumentException("no such way");
        }
        Table table = sourceOf(seen);
        int place = table.placeNear(number, how, seen.beginIn(table), seen.stopIn(table));
        if (place < 0) {
            throw new NoSuchElementException("the view has no such near key");
        }
        return table.keys[place];
    }

    public int viewEnd(int view, boolean isLast)
            throws IndexOutOfBoundsException, NoSuchElementException {
        View seen = viewAt(view);
        Table table = sourceOf(seen);
        return table.keys[endPlace(seen.beginIn(table), seen.stopIn(table), isLast)];
    }

    public int viewPoll(int view, boolean isLast)
            throws IndexOutOfBoundsException, NoSuchElementException {
        View seen = viewAt(view);
        Table table = sourceOf(seen);
        return pollAt(table, endPlace(seen.beginIn(table), seen.stopIn(table), isLast));
    }

    public int viewClear(int view) throws IndexOutOfBoundsException, NoSuchElementException {
        View seen = viewAt(view);
        Table table = sourceOf(seen);
        int had = table.count;
        table.dropPlaces(seen.beginIn(table), seen.stopIn(table));
        return had - table.count;
    }

    public int viewSize(int view) throws IndexOutOfBoundsException {
        return viewAt(view).countEntries();
    }

    public boolean lies(int view, int number)
            throws IndexOutOfBoundsException, NoSuchElementException {
        View seen = viewAt(view);
        refuseClosed(seen);
        return seen.covers(number);
    }

    public int step(int history, char kind, int key, int number)
            throws IndexOutOfBoundsException, IllegalArgumentException, IllegalStateException {
        History longer = historyAt(history);
        if (!isStepKind(kind)) {
            throw new IllegalArgumentException("no such kind");
        }
        if (longer.count >= STEPS) {
            throw new IllegalStateException("the history is full");
        }
        longer.add(kind, key, number);
        return longer.count;
    }

    public int forget(int history) throws IndexOutOfBoundsException {
        History forgotten = historyAt(history);
        int had = forgotten.count;
        forgotten.count = 0;
        return had;
    }

    public int play(int history, int map) throws IndexOutOfBoundsException, IllegalStateException {
        History played = historyAt(history);
        Table table = mapAt(map);
        if (!bench.hasRoom(table, played, played)) {
            throw new IllegalStateException("the map and the keys of the history are too many");
        }
        return played.playOn(table);
    }

    public int playBoth(int one, int other, int turns, int map)
            throws IndexOutOfBoundsException, IllegalStateException {
        History first = historyAt(one);
        History second = historyAt(other);
        Table table = mapAt(map);
        if (!bench.hasRoom(table, first, second)) {
            throw new IllegalStateException("the map and the keys of both are too many");
        }
        playByTurns(first, second, turns, table);
        return table.count;
    }

    public int meet(int one, int other) throws IndexOutOfBoundsException {
        History first = historyAt(one);
        return bench.countCommonKeys(first, historyAt(other));
    }

    public int opposite(int history, int map, int into) throws IndexOutOfBoundsException {
        History played = historyAt(history);
        Table table = mapAt(map);
        History turned = historyAt(into);
        bench.turnRound(played, table, turned);
        return turned.count;
    }

    public int combine(int map, int into, char how)
            throws IndexOutOfBoundsException, IllegalArgumentException, IllegalStateException {
        Table one = mapAt(map);
        Table other = mapAt(into);
        if (!isMixWay(how) || map == into) {
            throw new IllegalArgumentException("no such way, or a map with itself");
        }
        if (other.count + one.countMissingIn(other) > ENTRIES) {
            throw new IllegalStateException("both maps together are too many");
        }
        other.takeIn(one, how);
        return other.count;
    }

    public float fullShare(int map) throws IndexOutOfBoundsException {
        return (float) mapAt(map).count / (float) ENTRIES;
    }

    public double meanKey(int map) throws IndexOutOfBoundsException, ArithmeticException {
        Table table = mapAt(map);
        if (table.count == 0) {
            throw new ArithmeticException("no mean of no keys");
        }
        long sum = 0;
        for (int place = 0; place < table.count; place++) {
            sum += table.keys[place];
        }
        return (double) sum / (double) table.count;
    }

    public long checksum() {
        long sum = 7;
        for (int map = 0; map < maps.length; map++) {
            sum = maps[map].addTo(sum);
        }
        for (int view = 0; view < views.length; view++) {
            sum = views[view].addTo(sum);
        }
        for (int history = 0; history < histories.length; history++) {
            sum = histories[history].addTo(sum);
        }
        return sum;
    }

    public boolean isSound() {
        return areMapsSound() && areViewsSound() && areOrdersFree() && areOppositesSound()
                && areMixesSound();
    }

    private boolean areMapsSound() {
        for (int map = 0; map < maps.length; map++) {
            if (!bench.areNearKeysSound(maps[map]) || !bench.arePollsSound(maps[map])) {
                return false;
            }
        }
        return true;
    }

    private boolean areViewsSound() {
        for (int view = 0; view < views.length; view++) {
            if (!views[view].hasJustItsSpan()) {
                return false;
            }
        }
        return true;
    }

    private boolean areOrdersFree() {
        for (int one = 0; one < histories.length; one++) {
            for (int other = one + 1; other < histories.length; other++) {
                for (int map = 0; map < maps.length; map++) {
                    if (!bench.isOrderFree(histories[one], histories[other], maps[map])) {
                        return false;
                    }
                }
            }
        }
        return true;
    }

    private boolean areOppositesSound() {
        for (int history = 0; history < histories.length; history++) {
            for (int map = 0; map < maps.length; map++) {
                if (!bench.isUndone(histories[history], maps[map])) {
                    return false;
                }
            }
        }
        return true;
    }

    private boolean areMixesSound() {
        for (int one = 0; one < maps.length; one++) {
            for (int other = one + 1; other < maps.length; other++) {
                if (!bench.isMixAlike(maps[one], maps[other], 's')
                        || !bench.isMixAlike(maps[one], maps[other], 'g')
                        || !bench.isMixAlike(maps[one], maps[other], 'l')) {
                    return false;
                }
            }
        }
        return true;
    }

    private Table mapAt(int map) {
        if (map < 0 || map >= maps.length) {
            throw new IndexOutOfBoundsException("no such map");
        }
        return maps[map];
    }

    private View viewAt(int view) {
        if (view < 0 || view >= views.length) {
            throw new IndexOutOfBoundsException("no such view");
        }
        return views[view];
    }

    private History historyAt(int history) {
        if (history < 0 || history >= histories.length) {
            throw new IndexOutOfBoundsException("no such history");
        }
        return histories[history];
    }

    private static void refuseClosed(View view) {
        if (view.source == null) {
            throw new NoSuchElementException("the view is not open");
        }
    }

    private static Table sourceOf(View view) {
        refuseClosed(view);
        return view.source;
    }

    private static int endPlace(int begin, int stop, boolean isLast) {
        if (begin >= stop) {
            throw new NoSuchElementException("there are no entries");
        }
        return isLast ? stop - 1 : begin;
    }

    private static void putWithin(Table table, int key, int value) {
        if (table.count >= ENTRIES && table.placeOf(key) < 0) {
            throw new IllegalStateException("the map is full");
        }
        table.set(key, value);
    }

    private int pollAt(Table table, int place) {
        int key = table.keys[place];
        polledValue = table.values[place];
        hasPolled = true;
        table.dropPlaces(place, place + 1);
        return key;
    }

    private static void playByTurns(History first, History second, int turns, Table table) {
        int ofFirst = 0;
        int ofSecond = 0;
        int all = first.count + second.count;
        for (int turn = 0; turn < all; turn++) {
            boolean isTurnOfSecond = ((turns >>> (turn & 31)) & 1) == 1;
            if (ofSecond < second.count && (isTurnOfSecond || ofFirst >= first.count)) {
                second.doStep(ofSecond, table);
                ofSecond++;
            } else if (ofFirst < first.count) {
                first.doStep(ofFirst, table);
                ofFirst++;
            }
        }
    }

    private static boolean isNearWay(char how) {
        return how == 'f' || how == 'c' || how == 'h' || how == 'l';
    }

    private static boolean isStepKind(char kind) {
        return kind == 'p' || kind == 'r' || kind == 's' || kind == 'a' || kind == 'x';
    }

    private static boolean isMixWay(char how) {
        return how == 's' || how == 'g' || how == 'l';
    }

    private static long chain(long sum, int number) {
        return 31 * sum + number;
    }

    /** Entries by rising keys: the first places of two rows. Also a set of keys on the bench. */
    private static final class Table {
        final int[] keys = new int[ROOM];
        final int[] values = new int[ROOM];
        int count;

        /** Returns how many keys are below a number, which is the place of the next one. */
        int countBelow(int number) {
            int below = 0;
            for (int leap = LONGEST_LEAP; leap > 0; leap >>= 1) {
                int next = below + leap;
                if (next <= count && keys[next - 1] < number) {
                    below = next;
                }
            }
            return below;
        }

        int countUpTo(int number) {
            int place = countBelow(number);
            return place < count && keys[place] == number ? place + 1 : place;
        }

        /** Returns the place of a key, -1 if it is not there. */
        int placeOf(int key) {
            int place = countBelow(key);
            return place < count && keys[place] == key ? place : -1;
        }

        /** Returns the place of a near key, of those from begin to ahead of stop, or -1. */
        int placeNear(int number, char how, int begin, int stop) {
            int split = how == 'f' || how == 'h' ? countUpTo(number) : countBelow(number);
            if (how == 'f' || how == 'l') {
                int below = Math.min(split, stop) - 1;
                return below >= begin ? below : -1;
            }
            int above = Math.max(split, begin);
            return above < stop ? above : -1;
        }

        /** Puts an entry. Returns whether the table is unlike what it was. */
        boolean set(int key, int value) {
            int place = countBelow(key);
            if (place < count && keys[place] == key) {
                boolean isUnlike = values[place] != value;
                values[place] = value;
                return isUnlike;
            }
            if (count >= keys.length) {
                return false;
            }
            System.arraycopy(keys, place, keys, place + 1, count - place);
            System.arraycopy(values, place, values, place + 1, count - place);
            keys[place] = key;
            values[place] = value;
            count++;
            return true;
        }

        /** Takes a key away. Returns whether it was there. */
        boolean drop(int key) {
            int place = countBelow(key);
            if (place >= count || keys[place] != key) {
                return false;
            }
            dropPlaces(place, place + 1);
            return true;
        }

        /** Takes the entries from begin to ahead of stop away. */
        void dropPlaces(int begin, int stop) {
            if (begin < 0 || begin >= stop || stop > count) {
                return;
            }
            System.arraycopy(keys, stop, keys, begin, count - stop);
            System.arraycopy(values, stop, values, begin, count - stop);
            count -= stop - begin;
        }

        /** Does a step of a history. Returns whether the table is unlike what it was. */
        boolean change(char kind, int key, int number) {
            if (kind == 'r') {
                return drop(key);
            }
            int place = placeOf(key);
            if (kind == 's' && place >= 0) {
                return set(key, values[place] + number);
            }
            if ((kind == 'a' && place >= 0) || (kind == 'x' && place < 0)) {
                return false;
            }
            return set(key, number);
        }

        int countMissingIn(Table other) {
            int missing = 0;
            for (int place = 0; place < count; place++) {
                if (other.placeOf(keys[place]) < 0) {
                    missing++;
                }
            }
            return missing;
        }

        void takeIn(Table one, char how) {
            for (int from = 0; from < one.count; from++) {
                int key = one.keys[from];
                int value = one.values[from];
                int place = placeOf(key);
                set(key, place < 0 ? value : mix(values[place], value, how));
            }
        }

        static int mix(int old, int value, char how) {
            if (how == 's') {
                return old + value;
            }
            return how == 'g' ? Math.max(old, value) : Math.min(old, value);
        }

        void becomeCopy(Table other) {
            count = other.count;
            System.arraycopy(other.keys, 0, keys, 0, count);
            System.arraycopy(other.values, 0, values, 0, count);
        }

        boolean isSame(Table other) {
            if (count != other.count) {
                return false;
            }
            for (int place = 0; place < count; place++) {
                if (!hasSameAt(place, other, place)) {
                    return false;
                }
            }
            return true;
        }

        boolean hasSameAt(int place, Table other, int otherPlace) {
            return keys[place] == other.keys[otherPlace]
                    && values[place] == other.values[otherPlace];
        }

        long addTo(long sum) {
            sum = chain(sum, count);
            for (int place = 0; place < count; place++) {
                sum = chain(chain(sum, keys[place]), values[place]);
            }
            return sum;
        }
    }

    /** A span over a table. What it has is read from the table, so that it is never stale. */
    private static final class View {
        // null as long as the view is not open
        Table source;
        int cuts;
        private int from;
        private boolean isFrom;
        private int to;
        private boolean isTo;

        void becomeSpan(Table table, int begin, boolean isBegin, int end, boolean isEnd) {
            source = table;
            cuts = 0;
            from = begin;
            isFrom = isBegin;
            to = end;
            isTo = isEnd;
        }

        void becomeCut(View whole, boolean isHead, int number, boolean isIn) {
            source = whole.source;
            cuts = whole.cuts + 1;
            from = isHead ? whole.from : number;
            isFrom = isHead ? whole.isFrom : isIn;
            to = isHead ? number : whole.to;
            isTo = isHead ? isIn : whole.isTo;
        }

        boolean covers(int number) {
            boolean isTooLow = isFrom ? number < from : number <= from;
            boolean isTooHigh = isTo ? number > to : number >= to;
            return !isTooLow && !isTooHigh;
        }

        /** Returns the place where the entries of the view begin in its table. */
        int beginIn(Table table) {
            return isFrom ? table.countBelow(from) : table.countUpTo(from);
        }

        /** Returns the place behind the entries of the view in its table. */
        int stopIn(Table table) {
            int stop = isTo ? table.countUpTo(to) : table.countBelow(to);
            // With both ends at one key, neither counted, the end lies ahead of the beginning.
            return Math.max(stop, beginIn(table));
        }

        int countEntries() {
            Table table = source;
            return table == null ? -1 : stopIn(table) - beginIn(table);
        }

        boolean hasJustItsSpan() {
            Table table = source;
            if (table == null) {
                return true;
            }
            int begin = beginIn(table);
            int stop = stopIn(table);
            for (int place = 0; place < table.count; place++) {
                boolean isSeen = place >= begin && place < stop;
                if (isSeen != covers(table.keys[place])) {
                    return false;
                }
            }
            return true;
        }

        long addTo(long sum) {
            Table table = source;
            if (table == null) {
                return chain(sum, -1);
            }
            int stop = stopIn(table);
            sum = chain(sum, countEntries());
            for (int place = beginIn(table); place < stop; place++) {
                sum = chain(sum, table.keys[place]);
            }
            return sum;
        }
    }

    /** Steps, in the order in which they are done. */
    private static final class History {
        int count;
        private final char[] kinds = new char[STEPS];
        private final int[] keys = new int[STEPS];
        private final int[] numbers = new int[STEPS];

        void add(char kind, int key, int number) {
            if (count >= kinds.length) {
                return;
            }
            kinds[count] = kind;
            keys[count] = key;
            numbers[count] = number;
            count++;
        }

        void doStep(int place, Table table) {
            if (place >= 0 && place < count) {
                table.change(kinds[place], keys[place], numbers[place]);
            }
        }

        /** Does all steps. Returns how many left the table unlike what it was. */
        int playOn(Table table) {
            int changes = 0;
            for (int place = 0; place < count; place++) {
                if (table.change(kinds[place], keys[place], numbers[place])) {
                    changes++;
                }
            }
            return changes;
        }

        void addKeysTo(Table keySet) {
            for (int place = 0; place < count; place++) {
                keySet.set(keys[place], 0);
            }
        }

        long addTo(long sum) {
            sum = chain(sum, count);
            for (int place = 0; place < count; place++) {
                sum = chain(chain(chain(sum, kinds[place]), keys[place]), numbers[place]);
            }
            return sum;
        }
    }

    /** Rows that calls use on their way, and what is found out with them. */
    private static final class Bench {
        private final Table keySet = new Table();
        private final Table left = new Table();
        private final Table right = new Table();
        private final History turned = new History();

        /** Lets the key set become the unlike keys of both, and returns how many these are. */
        int countKeys(History one, History other) {
            keySet.count = 0;
            one.addKeysTo(keySet);
            other.addKeysTo(keySet);
            return keySet.count;
        }

        int countCommonKeys(History one, History other) {
            return countKeys(one, one) + countKeys(other, other) - countKeys(one, other);
        }

        boolean hasRoom(Table table, History one, History other) {
            countKeys(one, other);
            return table.count + keySet.countMissingIn(table) <= ENTRIES;
        }

        /** Lets a history become the opposite of one, which may be the same. */
        void turnRound(History played, Table table, History into) {
            keySet.count = 0;
            played.addKeysTo(keySet);
            into.count = 0;
            for (int next = 0; next < keySet.count; next++) {
                int key = keySet.keys[next];
                int place = table.placeOf(key);
                if (place < 0) {
                    into.add('r', key, 0);
                } else {
                    into.add('p', key, table.values[place]);
                }
            }
        }

        boolean areNearKeysSound(Table table) {
            for (int place = 0; place < table.count; place++) {
                int key = table.keys[place];
                if (place > 0 && table.keys[place - 1] >= key) {
                    return false;
                }
                // Beside the very ends the numbers go round; near keys of these are due as well.
                for (int beside = -1; beside <= 1; beside++) {
                    if (!isSplitSound(table, key + beside, true)
                            || !isSplitSound(table, key + beside, false)) {
                        return false;
                    }
                }
            }
            return true;
        }

        /** Tells whether near keys below and above stand side by side, the number between them. */
        private static boolean isSplitSound(Table table, int number, boolean isInBelow) {
            int below = table.placeNear(number, isInBelow ? 'f' : 'l', 0, table.count);
            int above = table.placeNear(number, isInBelow ? 'h' : 'c', 0, table.count);
            int next = below + 1;
            if (above != (next < table.count ? next : -1)) {
                return false;
            }
            return (below < 0 || isBelow(table.keys[below], number, isInBelow))
                    && (above < 0 || !isBelow(table.keys[above], number, isInBelow));
        }

        private static boolean isBelow(int key, int number, boolean isInBelow) {
            return isInBelow ? key <= number : key < number;
        }

        boolean arePollsSound(Table table) {
            return arePollsSoundFrom(table, false) && arePollsSoundFrom(table, true);
        }

        private boolean arePollsSoundFrom(Table table, boolean isLast) {
            left.becomeCopy(table);
            for (int polls = 0; polls < table.count; polls++) {
                if (left.count != table.count - polls) {
                    return false;
                }
                int end = isLast ? left.count - 1 : 0;
                if (!left.hasSameAt(end, table, isLast ? end : polls)) {
                    return false;
                }
                left.dropPlaces(end, end + 1);
            }
            return left.count == 0;
        }

        /** Tells whether two histories without a common key do the same in either order. */
        boolean isOrderFree(History one, History other, Table table) {
            if (countCommonKeys(one, other) > 0) {
                return true;
            }
            left.becomeCopy(table);
            one.playOn(left);
            other.playOn(left);
            right.becomeCopy(table);
            other.playOn(right);
            one.playOn(right);
            return left.isSame(right);
        }

        /** Tells whether the opposite of a history takes back what it did. */
        boolean isUndone(History played, Table table) {
            turnRound(played, table, turned);
            left.becomeCopy(table);
            played.playOn(left);
            turned.playOn(left);
            return left.isSame(table);
        }

        boolean isMixAlike(Table one, Table other, char how) {
            left.becomeCopy(other);
            left.takeIn(one, how);
            right.becomeCopy(one);
            right.takeIn(other, how);
            return left.isSame(right);
        }
    }
}
