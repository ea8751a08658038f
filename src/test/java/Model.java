import java.util.ArrayList;
import java.util.List;
import java.util.NavigableMap;
import java.util.NoSuchElementException;
import java.util.TreeMap;
import java.util.TreeSet;

/** The document once more, by the library's own sorted map, to be compared with the class. */
final class Model {
    /** One step of a history. */
    record Step(char kind, int key, int number) {}

    /** A view of the library; the span is kept beside it, which the library does not tell. */
    private static final class Seen {
        TreeMap<Integer, Integer> whole;
        NavigableMap<Integer, Integer> part;
        int from;
        boolean isFrom;
        int to;
        boolean isTo;
        int cuts;

        boolean covers(int number) {
            return (isFrom ? number >= from : number > from) && (isTo ? number <= to : number < to);
        }
    }

    private final List<TreeMap<Integer, Integer>> maps = new ArrayList<>();
    private final Seen[] views = new Seen[4];
    private final List<List<Step>> histories = new ArrayList<>();
    private List<Integer> row = new ArrayList<>();
    private Integer polled;

    Model() {
        for (int i = 0; i < 3; i++) {
            maps.add(new TreeMap<>());
            histories.add(new ArrayList<>());
        }
    }

    private static void bound(int index, int length) {
        if (index < 0 || index >= length) {
            throw new IndexOutOfBoundsException();
        }
    }

    private static void argument(boolean isRight) {
        if (!isRight) {
            throw new IllegalArgumentException();
        }
    }

    private static void state(boolean isRight) {
        if (!isRight) {
            throw new IllegalStateException();
        }
    }

    private static void exists(boolean isThere) {
        if (!isThere) {
            throw new NoSuchElementException();
        }
    }

    private TreeMap<Integer, Integer> map(int map) {
        bound(map, 3);
        return maps.get(map);
    }

    private List<Step> history(int history) {
        bound(history, 3);
        return histories.get(history);
    }

    private Seen seen(int view) {
        bound(view, 4);
        exists(views[view] != null);
        return views[view];
    }

    int put(int map, int key, int value) {
        TreeMap<Integer, Integer> m = map(map);
        state(m.size() < 60 || m.containsKey(key));
        m.put(key, value);
        return m.size();
    }

    int value(int map, int key) {
        Integer value = map(map).get(key);
        exists(value != null);
        return value;
    }

    int remove(int map, int key) {
        map(map).remove(key);
        return map(map).size();
    }

    private static int near(NavigableMap<Integer, Integer> m, int number, char how) {
        Integer key =
                switch (how) {
                    case 'f' -> m.floorKey(number);
                    case 'c' -> m.ceilingKey(number);
                    case 'h' -> m.higherKey(number);
                    default -> m.lowerKey(number);
                };
        exists(key != null);
        return key;
    }

    int near(int map, int number, char how) {
        map(map);
        argument("fchl".indexOf(how) >= 0);
        return near(map(map), number, how);
    }

    private static int end(NavigableMap<Integer, Integer> m, boolean isLast) {
        exists(!m.isEmpty());
        return isLast ? m.lastKey() : m.firstKey();
    }

    int end(int map, boolean isLast) {
        return end(map(map), isLast);
    }

    private int poll(NavigableMap<Integer, Integer> m, boolean isLast) {
        var entry = isLast ? m.pollLastEntry() : m.pollFirstEntry();
        exists(entry != null);
        polled = entry.getValue();
        return entry.getKey();
    }

    int poll(int map, boolean isLast) {
        return poll(map(map), isLast);
    }

    int polled() {
        exists(polled != null);
        return polled;
    }

    int drain(int map, boolean isLast) {
        TreeMap<Integer, Integer> m = map(map);
        row = new ArrayList<>();
        while (!m.isEmpty()) {
            row.add(poll(m, isLast));
        }
        return row.size();
    }

    int drained(int index) {
        bound(index, row.size());
        return row.get(index);
    }

    int size(int map) {
        return map(map).size();
    }

    int keyAt(int map, int index, boolean isFalling) {
        TreeMap<Integer, Integer> m = map(map);
        bound(index, m.size());
        return new ArrayList<>(isFalling ? m.descendingKeySet() : m.navigableKeySet()).get(index);
    }

    int mark(int map) {
        return map(map).hashCode();
    }

    boolean isLike(int map, int other) {
        return map(map).equals(map(other));
    }

    int open(int view, int map, int from, boolean isFrom, int to, boolean isTo) {
        bound(view, 4);
        Seen made = new Seen();
        made.whole = map(map);
        made.part = made.whole.subMap(from, isFrom, to, isTo);
        made.from = from;
        made.isFrom = isFrom;
        made.to = to;
        made.isTo = isTo;
        views[view] = made;
        return made.part.size();
    }

    int cut(int view, int other, boolean isHead, int number, boolean isIn) {
        bound(view, 4);
        Seen old = seen(other);
        argument(old.covers(number));
        state(old.cuts < 12);
        Seen made = new Seen();
        made.whole = old.whole;
        made.part = isHead ? old.part.headMap(number, isIn) : old.part.tailMap(number, isIn);
        made.from = isHead ? old.from : number;
        made.isFrom = isHead ? old.isFrom : isIn;
        made.to = isHead ? number : old.to;
        made.isTo = isHead ? isIn : old.isTo;
        made.cuts = old.cuts + 1;
        views[view] = made;
        return made.part.size();
    }

    int viewPut(int view, int key, int value) {
        Seen seen = seen(view);
        argument(seen.covers(key));
        state(seen.whole.size() < 60 || seen.whole.containsKey(key));
        seen.part.put(key, value);
        return seen.part.size();
    }

    boolean viewRemove(int view, int key) {
        return seen(view).part.remove(key) != null;
    }

    int viewNear(int view, int number, char how) {
        bound(view, 4);
        argument("fchl".indexOf(how) >= 0);
        return near(seen(view).part, number, how);
    }

    int viewEnd(int view, boolean isLast) {
        return end(seen(view).part, isLast);
    }

    int viewPoll(int view, boolean isLast) {
        return poll(seen(view).part, isLast);
    }

    int viewClear(int view) {
        int had = seen(view).part.size();
        seen(view).part.clear();
        return had;
    }

    int viewSize(int view) {
        bound(view, 4);
        return views[view] == null ? -1 : views[view].part.size();
    }

    boolean lies(int view, int number) {
        return seen(view).covers(number);
    }

    int step(int history, char kind, int key, int number) {
        List<Step> h = history(history);
        argument("prsax".indexOf(kind) >= 0);
        state(h.size() < 30);
        h.add(new Step(kind, key, number));
        return h.size();
    }

    int forget(int history) {
        int had = history(history).size();
        history(history).clear();
        return had;
    }

    private static void change(TreeMap<Integer, Integer> m, Step step) {
        switch (step.kind) {
            case 'p' -> m.put(step.key, step.number);
            case 'r' -> m.remove(step.key);
            case 's' -> m.merge(step.key, step.number, Integer::sum);
            case 'a' -> m.putIfAbsent(step.key, step.number);
            default -> m.replace(step.key, step.number);
        }
    }

    private static TreeSet<Integer> keysOf(List<Step> one, List<Step> other) {
        TreeSet<Integer> keys = new TreeSet<>();
        one.forEach(step -> keys.add(step.key));
        other.forEach(step -> keys.add(step.key));
        return keys;
    }

    private static void room(TreeMap<Integer, Integer> m, List<Step> one, List<Step> other) {
        TreeSet<Integer> keys = keysOf(one, other);
        keys.addAll(m.keySet());
        state(keys.size() <= 60);
    }

    int play(int history, int map) {
        List<Step> h = history(history);
        TreeMap<Integer, Integer> m = map(map);
        room(m, h, h);
        int changes = 0;
        for (Step step : h) {
            TreeMap<Integer, Integer> before = new TreeMap<>(m);
            change(m, step);
            changes += before.equals(m) ? 0 : 1;
        }
        return changes;
    }

    int playBoth(int one, int other, int turns, int map) {
        List<Step> first = new ArrayList<>(history(one));
        List<Step> second = new ArrayList<>(history(other));
        TreeMap<Integer, Integer> m = map(map);
        room(m, first, second);
        int bits = turns;
        while (!first.isEmpty() || !second.isEmpty()) {
            List<Step> due = (bits & 1) == 0 ? first : second;
            bits = Integer.rotateRight(bits, 1);
            if (due.isEmpty()) {
                due = due == first ? second : first;
            }
            change(m, due.remove(0));
        }
        return m.size();
    }

    int meet(int one, int other) {
        TreeSet<Integer> keys = keysOf(history(one), history(one));
        keys.retainAll(keysOf(history(other), history(other)));
        return keys.size();
    }

    int opposite(int history, int map, int into) {
        List<Step> turned = new ArrayList<>();
        TreeMap<Integer, Integer> m = map(map);
        for (int key : keysOf(history(history), history(history))) {
            turned.add(
                    m.containsKey(key) ? new Step('p', key, m.get(key)) : new Step('r', key, 0));
        }
        bound(into, 3);
        histories.set(into, turned);
        return turned.size();
    }

    int combine(int map, int into, char how) {
        TreeMap<Integer, Integer> one = map(map);
        TreeMap<Integer, Integer> other = map(into);
        argument("sgl".indexOf(how) >= 0 && map != into);
        TreeSet<Integer> keys = new TreeSet<>(one.keySet());
        keys.addAll(other.keySet());
        state(keys.size() <= 60);
        one.forEach(
                (key, value) ->
                        other.merge(
                                key,
                                value,
                                how == 's' ? Integer::sum : how == 'g' ? Math::max : Math::min));
        return other.size();
    }

    float fullShare(int map) {
        return (float) map(map).size() / 60f;
    }

    double meanKey(int map) {
        if (map(map).isEmpty()) {
            throw new ArithmeticException();
        }
        return map(map).keySet().stream().mapToLong(key -> key).sum() / (double) map(map).size();
    }

    long checksum() {
        List<Long> all = new ArrayList<>();
        for (TreeMap<Integer, Integer> m : maps) {
            all.add((long) m.size());
            m.forEach((key, value) -> all.addAll(List.of((long) key, (long) value)));
        }
        for (Seen seen : views) {
            all.add(seen == null ? -1L : seen.part.size());
            if (seen != null) {
                seen.part.keySet().forEach(key -> all.add((long) key));
            }
        }
        for (List<Step> h : histories) {
            all.add((long) h.size());
            h.forEach(s -> all.addAll(List.of((long) s.kind, (long) s.key, (long) s.number)));
        }
        long sum = 7;
        for (long number : all) {
            sum = 31 * sum + number;
        }
        return sum;
    }

    boolean isSound() {
        return true;
    }
}
