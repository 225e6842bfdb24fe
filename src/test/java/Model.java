import java.util.ArrayList;
import java.util.List;
import java.util.Map;
import java.util.TreeMap;
import java.util.TreeSet;

/** The document's words taken one by one, with the library's maps and no thought of cost: what a store is held against. */
final class Model {
    private static final class Deal {
        int state;
        int level;
        int start;
        int stamp = -1;
        int written;
        boolean hadAfter;
        TreeMap<Integer, Integer> writes = new TreeMap<>();
        List<TreeMap<Integer, Integer>> places = new ArrayList<>();
        List<int[]> read = new ArrayList<>();

        boolean hasRead(int key) {
            return read.stream().anyMatch(r -> r[0] <= key && key <= r[1]);
        }
    }

    private final List<Deal> deals = new ArrayList<>();
    private final TreeMap<Integer, TreeMap<Integer, Integer>> store = new TreeMap<>();
    private int clock;
    private int safe;

    String answer(String call) {
        try {
            return String.valueOf(value(Calls.name(call), Calls.arguments(call)));
        } catch (RuntimeException e) {
            return "throws." + e.getClass().getSimpleName();
        }
    }

    private long value(String name, long[] a) {
        int first = a.length > 0 ? (int) a[0] : 0;
        int second = a.length > 1 ? (int) a[1] : 0;
        int third = a.length > 2 ? (int) a[2] : 0;
        switch (name) {
            case "begin": return begin(first);
            case "told": return told(first, second);
            case "vacuum": return vacuum();
            case "flush": return flush();
            case "crash": return crash();
            case "at": return orZero(has(first, second != 0 ? safe : clock));
            case "versions": return store.getOrDefault(first, new TreeMap<>()).size();
            case "count": return count(first);
            case "astray": return 0;
            default: return ofOpen(name, open(first), second, third);
        }
    }

    private long ofOpen(String name, Deal t, int second, int third) {
        switch (name) {
            case "read": t.read.add(new int[] {second, second}); return orZero(sees(t).get(second));
            case "found": t.read.add(new int[] {second, second}); return sees(t).containsKey(second) ? 1 : 0;
            case "write": t.writes.put(second, third); return t.writes.size();
            case "erase": t.writes.put(second, null); return t.writes.size();
            case "sum": return sum(t, second, third);
            case "key": return key(t, second, third);
            case "save": return save(t);
            case "back": return back(t, second);
            case "commit": return commit(t);
            case "abort": finish(t, 2); return t.written;
            default: throw new AssertionError(name);
        }
    }

    private Deal open(int number) {
        if (number < 0 || number >= deals.size()) throw new IndexOutOfBoundsException();
        if (deals.get(number).state != 0) throw new IllegalStateException();
        return deals.get(number);
    }

    private void finish(Deal t, int state) {
        t.state = state;
        t.written = t.writes.size();
        t.places.clear();
    }

    private static long orZero(Integer value) {
        return value == null ? 0 : value;
    }

    private Integer has(int key, int stamp) {
        Map.Entry<Integer, Integer> e = store.getOrDefault(key, new TreeMap<>()).floorEntry(stamp);
        return e == null ? null : e.getValue();
    }

    private TreeMap<Integer, Integer> sees(Deal t) {
        TreeMap<Integer, Integer> all = new TreeMap<>();
        for (int key : store.keySet()) all.put(key, has(key, t.start));
        all.putAll(t.writes);
        all.values().removeIf(v -> v == null);
        return all;
    }

    private long begin(int level) {
        if (level < 0 || level > 1) throw new IllegalArgumentException();
        if (deals.size() == 120) throw new IllegalStateException();
        Deal t = new Deal();
        t.level = level;
        t.start = clock;
        deals.add(t);
        return deals.size() - 1;
    }

    private long sum(Deal t, int low, int high) {
        t.read.add(new int[] {low, high});
        long total = 0;
        for (Map.Entry<Integer, Integer> e : sees(t).entrySet()) {
            if (low <= e.getKey() && e.getKey() <= high) total += e.getValue();
        }
        return total;
    }

    private long key(Deal t, int low, int i) {
        if (i < 0) throw new IllegalArgumentException();
        List<Integer> keys = new ArrayList<>(sees(t).tailMap(low, true).keySet());
        t.read.add(new int[] {low, i < keys.size() ? keys.get(i) : Integer.MAX_VALUE});
        return i < keys.size() ? keys.get(i) : 1L << 32;
    }

    private long save(Deal t) {
        if (t.places.size() == 20) throw new IllegalStateException();
        t.places.add(new TreeMap<>(t.writes));
        return t.places.size() - 1;
    }

    private long back(Deal t, int place) {
        if (place < 0 || place >= t.places.size()) throw new IllegalArgumentException();
        t.writes = new TreeMap<>(t.places.get(place));
        t.places.subList(place + 1, t.places.size()).clear();
        return t.writes.size();
    }

    private long commit(Deal t) {
        for (int key : t.writes.keySet()) {
            if (!store.getOrDefault(key, new TreeMap<>()).tailMap(t.start, false).isEmpty()) {
                finish(t, 2);
                return -1;
            }
        }
        boolean after = false;
        boolean before = false;
        boolean chained = false;
        for (Deal u : t.level == 1 ? deals : new ArrayList<Deal>()) {
            boolean above = u.state == 1 && u.stamp > t.start;
            if (u == t || u.level != 1) continue;
            if (above && u.writes.keySet().stream().anyMatch(t::hasRead)) {
                after = true;
                chained |= u.hadAfter;
            }
            before |= (above || u.state == 0) && t.writes.keySet().stream().anyMatch(u::hasRead);
        }
        if (chained || after && before) {
            finish(t, 2);
            return -2;
        }
        clock++;
        t.writes.forEach((key, value) -> store.computeIfAbsent(key, k -> new TreeMap<>()).put(clock, value));
        finish(t, 1);
        t.stamp = clock;
        t.hadAfter = after;
        return clock;
    }

    private long vacuum() {
        TreeSet<Integer> stamps = new TreeSet<>(List.of(clock, safe));
        for (Deal t : deals) if (t.state == 0) stamps.add(t.start);
        long gone = 0;
        for (TreeMap<Integer, Integer> versions : store.values()) {
            int size = versions.size();
            TreeSet<Integer> wanted = new TreeSet<>();
            for (int s : stamps) if (versions.floorKey(s) != null) wanted.add(versions.floorKey(s));
            versions.keySet().retainAll(wanted);
            if (!versions.isEmpty() && versions.firstEntry().getValue() == null
                    && stamps.first() >= versions.firstKey()) {
                versions.pollFirstEntry();
            }
            gone += size - versions.size();
        }
        store.values().removeIf(TreeMap::isEmpty);
        return gone;
    }

    private long flush() {
        int made = clock - safe;
        safe = clock;
        return made;
    }

    private long crash() {
        clock = safe;
        for (TreeMap<Integer, Integer> versions : store.values()) versions.tailMap(safe, false).clear();
        store.values().removeIf(TreeMap::isEmpty);
        long lost = 0;
        for (Deal t : deals) {
            if (t.state == 0) finish(t, 2);
            if (t.state == 1 && t.stamp > safe) {
                t.state = 3;
                lost++;
            }
        }
        return lost;
    }

    private long told(int number, int what) {
        if (number < 0 || number >= deals.size()) throw new IndexOutOfBoundsException();
        Deal t = deals.get(number);
        switch (what) {
            case 0: return t.state;
            case 1: return t.level;
            case 2: return t.start;
            case 3: return t.stamp;
            case 4: return t.state == 0 ? t.writes.size() : t.written;
            case 5: return t.places.size();
            case 6: return t.hadAfter ? 1 : 0;
            default: throw new IllegalArgumentException();
        }
    }

    private long count(int what) {
        switch (what) {
            case 0: return clock;
            case 1: return safe;
            case 2: return store.values().stream().mapToInt(TreeMap::size).sum();
            case 3: return store.size();
            case 4: return store.keySet().stream().filter(k -> has(k, clock) != null).count();
            case 5: return deals.size();
            case 6: return deals.stream().filter(t -> t.state == 0).count();
            default: return -1;
        }
    }
}
