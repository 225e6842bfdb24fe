/**
 * A store of keys that keeps versions: each transaction sees what was committed when it began, and what it
 * wrote itself; of two that write the same key the first to commit wins; those that are to be as if they had
 * come one after the other are given up where that might not be so.
 */
public final class SnapshotStore {
    public static final int NONE = -1, CONFLICT = -1, UNSAFE = -2;
    public static final long NO_KEY = 4294967296L;

    private static final int SNAPSHOT = 0, SERIAL = 1;
    private static final int OPEN = 0, COMMITTED = 1, ABORTED = 2, LOST = 3;
    private static final int MOST_TRANSACTIONS = 120, MOST_PLACES = 20;

    // An object is used for 512 calls, and a call makes one note (of a write or of a read range) at most.
    private static final int MOST_NOTES = 512;

    // Stands for an erased or missing value; it lies outside the ints, so that no value is like it.
    private static final long NOTHING = 4294967296L;

    private final Transaction[] transactions;
    private int begun;
    private int clock;
    private int safeStamp;
    private int notes;

    // The least of all keys that were ever written; the others hang behind it in rising order.
    private Key least;

    public SnapshotStore() {
        transactions = new Transaction[MOST_TRANSACTIONS];
    }

    public int begin(int level) throws IllegalArgumentException, IllegalStateException {
        if (level != SNAPSHOT && level != SERIAL) {
            throw new IllegalArgumentException("there is no such level");
        }
        if (begun >= transactions.length) {
            throw new IllegalStateException("there are as many transactions as there can be");
        }
        int number = begun;
        transactions[number] = new Transaction(level, clock);
        begun = number + 1;
        return number;
    }

    public int read(int transaction, int key) throws IndexOutOfBoundsException, IllegalStateException {
        Transaction t = openOne(transaction);
        noteRange(t, key, key);
        return valueOrZero(seenBy(t, keyNamed(key)));
    }

    public boolean found(int transaction, int key) throws IndexOutOfBoundsException, IllegalStateException {
        Transaction t = openOne(transaction);
        noteRange(t, key, key);
        return seenBy(t, keyNamed(key)) != NOTHING;
    }

    public int write(int transaction, int key, int value) throws IndexOutOfBoundsException, IllegalStateException {
        return put(openOne(transaction), key, value);
    }

    public int erase(int transaction, int key) throws IndexOutOfBoundsException, IllegalStateException {
        return put(openOne(transaction), key, NOTHING);
    }

    public long sum(int transaction, int low, int high) throws IndexOutOfBoundsException, IllegalStateException {
        Transaction t = openOne(transaction);
        noteRange(t, low, high);
        long total = 0;
        for (Key k = least; k != null; k = k.next) {
            if (k.name >= low && k.name <= high) {
                total += valueOrZero(seenBy(t, k));
            }
        }
        return total;
    }

    public long key(int transaction, int low, int i)
            throws IndexOutOfBoundsException, IllegalStateException, IllegalArgumentException {
        Transaction t = openOne(transaction);
        if (i < 0) {
            throw new IllegalArgumentException("the place of a key is below 0");
        }
        Key k = seenKey(t, low, i);
        if (k == null) {
            noteRange(t, low, Integer.MAX_VALUE);
            return NO_KEY;
        }
        noteRange(t, low, k.name);
        return k.name;
    }

    public int save(int transaction) throws IndexOutOfBoundsException, IllegalStateException {
        Transaction t = openOne(transaction);
        int number = t.placeCount();
        if (number >= MOST_PLACES) {
            throw new IllegalStateException("there are as many places as there can be");
        }
        t.place = new Place(number, t.latest, t.place);
        return number;
    }

    public int back(int transaction, int place)
            throws IndexOutOfBoundsException, IllegalStateException, IllegalArgumentException {
        Transaction t = openOne(transaction);
        Place p = t.placeNumbered(place);
        if (p == null) {
            throw new IllegalArgumentException("there is no such place");
        }
        t.latest = p.latest;
        t.place = p;
        return t.writtenKeys();
    }

    public int commit(int transaction) throws IndexOutOfBoundsException, IllegalStateException {
        Transaction t = openOne(transaction);
        if (hasConflict(t)) {
            t.end(ABORTED);
            return CONFLICT;
        }
        boolean after = t.level == SERIAL && hasAfter(t, false);
        if (after && (hasAfter(t, true) || hasBefore(t))) {
            t.end(ABORTED);
            return UNSAFE;
        }
        clock++;
        addVersions(t);
        t.stamp = clock;
        t.hadAfter = after;
        t.end(COMMITTED);
        return clock;
    }

    public int abort(int transaction) throws IndexOutOfBoundsException, IllegalStateException {
        Transaction t = openOne(transaction);
        t.end(ABORTED);
        return t.writtenKeys();
    }

    public int vacuum() {
        int gone = 0;
        for (Key k = least; k != null; k = k.next) {
            gone += dropUnseen(k);
            gone += dropOldestErased(k);
        }
        return gone;
    }

    public int flush() {
        int made = clock - safeStamp;
        safeStamp = clock;
        return made;
    }

    public int crash() {
        clock = safeStamp;
        for (Key k = least; k != null; k = k.next) {
            k.newest = k.versionAt(safeStamp);
        }
        int lost = 0;
        for (Transaction t : transactions) {
            if (t != null && t.state == OPEN) {
                t.end(ABORTED);
            } else if (t != null && t.state == COMMITTED && t.stamp > safeStamp) {
                t.end(LOST);
                lost++;
            }
        }
        return lost;
    }

    public int told(int transaction, int what) throws IndexOutOfBoundsException, IllegalArgumentException {
        Transaction t = anyOne(transaction);
        switch (what) {
            case 0:
                return t.state;
            case 1:
                return t.level;
            case 2:
                return t.start;
            case 3:
                return t.stamp;
            case 4:
                return t.writtenKeys();
            case 5:
                return t.placeCount();
            case 6:
                return t.hadAfter ? 1 : 0;
            default:
                throw new IllegalArgumentException("nothing of that kind is told");
        }
    }

    public int at(int key, boolean safe) {
        Key k = keyNamed(key);
        return k == null ? 0 : valueOrZero(k.contentAt(safe ? safeStamp : clock));
    }

    public int versions(int key) {
        Key k = keyNamed(key);
        return k == null ? 0 : k.versionCount();
    }

    public int count(int what) {
        switch (what) {
            case 0:
                return clock;
            case 1:
                return safeStamp;
            case 2:
                return allVersions();
            case 3:
                return keysWithVersions();
            case 4:
                return keysWithValue();
            case 5:
                return begun;
            case 6:
                return openOnes();
            default:
                return NONE;
        }
    }

    public int astray() {
        int wrong = 0;
        for (Key k = least; k != null; k = k.next) {
            if (!k.isInOrder(clock)) {
                wrong++;
            }
        }
        return wrong;
    }

    private Transaction anyOne(int number) {
        if (number < 0 || number >= transactions.length) {
            throw new IndexOutOfBoundsException("there is no such transaction");
        }
        Transaction t = transactions[number];
        if (t == null) {
            throw new IndexOutOfBoundsException("there is no such transaction");
        }
        return t;
    }

    private Transaction openOne(int number) {
        Transaction t = anyOne(number);
        if (t.state != OPEN) {
            throw new IllegalStateException("the transaction is not open");
        }
        return t;
    }

    // What is kept stays within what the promised calls can need; only a call behind these is refused here.
    private void countNote() {
        if (notes >= MOST_NOTES) {
            throw new IllegalStateException("the store is used up");
        }
        notes++;
    }

    // Nobody asks what a snapshot transaction has read, so only a serial one's ranges are kept.
    private void noteRange(Transaction t, int low, int high) {
        if (t.level == SERIAL && low <= high) {
            countNote();
            t.ranges = new Range(low, high, t.ranges);
        }
    }

    private int put(Transaction t, int name, long content) {
        countNote();
        placeKey(name);
        int keys = t.writtenKeys();
        if (t.writeOf(name) == null) {
            keys++;
        }
        t.latest = new Write(name, content, keys, t.latest);
        return keys;
    }

    private Key keyNamed(int name) {
        Key k = lastUpTo(name);
        return k != null && k.name == name ? k : null;
    }

    // A key has its place in the chain from its first write on, so that walks meet all keys in rising order.
    private void placeKey(int name) {
        Key lower = lastUpTo(name);
        if (lower == null) {
            least = new Key(name, least);
        } else if (lower.name != name) {
            lower.next = new Key(name, lower.next);
        }
    }

    private Key lastUpTo(int name) {
        Key last = null;
        for (Key k = least; k != null && k.name <= name; k = k.next) {
            last = k;
        }
        return last;
    }

    private static long seenBy(Transaction t, Key k) {
        if (k == null) {
            return NOTHING;
        }
        Write own = t.writeOf(k.name);
        return own != null ? own.content : k.contentAt(t.start);
    }

    private static int valueOrZero(long content) {
        return content == NOTHING ? 0 : (int) content;
    }

    private Key seenKey(Transaction t, int low, int i) {
        int left = i;
        for (Key k = least; k != null; k = k.next) {
            if (k.name >= low && seenBy(t, k) != NOTHING) {
                if (left == 0) {
                    return k;
                }
                left--;
            }
        }
        return null;
    }

    private boolean hasConflict(Transaction t) {
        for (Write w = t.latest; w != null; w = w.earlier) {
            Key k = keyNamed(w.name);
            if (k != null && k.newest != null && k.newest.stamp > t.start) {
                return true;
            }
        }
        return false;
    }

    // Whether t has an after; with ownToo, whether it has one that had an after itself when it committed.
    private boolean hasAfter(Transaction t, boolean ownToo) {
        for (Transaction u : transactions) {
            if (u != null && u.level == SERIAL && u.committedAbove(t.start)
                    && (u.hadAfter || !ownToo) && t.hasReadAnyOf(u.latest)) {
                return true;
            }
        }
        return false;
    }

    private boolean hasBefore(Transaction t) {
        for (Transaction u : transactions) {
            if (u != null && u != t && u.level == SERIAL
                    && (u.state == OPEN || u.committedAbove(t.start)) && u.hasReadAnyOf(t.latest)) {
                return true;
            }
        }
        return false;
    }

    private void addVersions(Transaction t) {
        for (Write w = t.latest; w != null; w = w.earlier) {
            Key k = keyNamed(w.name);
            // The latest write of a key comes first in the chain; the earlier ones find its version there.
            if (k != null && (k.newest == null || k.newest.stamp != clock)) {
                k.newest = new Version(clock, w.content, k.newest);
            }
        }
    }

    private int dropUnseen(Key k) {
        int gone = 0;
        int newerStamp = Integer.MAX_VALUE;
        Version kept = null;
        for (Version v = k.newest; v != null; v = v.older) {
            if (isLookedAt(v.stamp, newerStamp)) {
                kept = v;
            } else {
                k.unlink(v, kept);
                gone++;
            }
            newerStamp = v.stamp;
        }
        return gone;
    }

    private int dropOldestErased(Key k) {
        Version newer = null;
        Version oldest = k.newest;
        while (oldest != null && oldest.older != null) {
            newer = oldest;
            oldest = oldest.older;
        }
        if (oldest == null || oldest.content != NOTHING || isLookedAt(0, oldest.stamp)) {
            return 0;
        }
        k.unlink(oldest, newer);
        return 1;
    }

    // Whether the clock, the safe stamp or the start of an open transaction is from low to just below high.
    private boolean isLookedAt(int low, int high) {
        if ((clock >= low && clock < high) || (safeStamp >= low && safeStamp < high)) {
            return true;
        }
        for (Transaction t : transactions) {
            if (t != null && t.state == OPEN && t.start >= low && t.start < high) {
                return true;
            }
        }
        return false;
    }

    private int allVersions() {
        int all = 0;
        for (Key k = least; k != null; k = k.next) {
            all += k.versionCount();
        }
        return all;
    }

    private int keysWithVersions() {
        int keys = 0;
        for (Key k = least; k != null; k = k.next) {
            if (k.newest != null) {
                keys++;
            }
        }
        return keys;
    }

    private int keysWithValue() {
        int keys = 0;
        for (Key k = least; k != null; k = k.next) {
            if (k.contentAt(clock) != NOTHING) {
                keys++;
            }
        }
        return keys;
    }

    private int openOnes() {
        int open = 0;
        for (Transaction t : transactions) {
            if (t != null && t.state == OPEN) {
                open++;
            }
        }
        return open;
    }

    private static final class Transaction {
        final int level;
        final int start;
        int state = OPEN;
        int stamp = NONE;
        boolean hadAfter;
        Write latest;
        Range ranges;
        Place place;

        Transaction(int level, int start) {
            this.level = level;
            this.start = start;
        }

        void end(int how) {
            state = how;
            place = null;
        }

        int writtenKeys() {
            return latest == null ? 0 : latest.keys;
        }

        Write writeOf(int name) {
            for (Write w = latest; w != null; w = w.earlier) {
                if (w.name == name) {
                    return w;
                }
            }
            return null;
        }

        int placeCount() {
            return place == null ? 0 : place.number + 1;
        }

        Place placeNumbered(int number) {
            for (Place p = place; p != null; p = p.earlier) {
                if (p.number == number) {
                    return p;
                }
            }
            return null;
        }

        boolean committedAbove(int bound) {
            return state == COMMITTED && stamp > bound;
        }

        boolean hasReadAnyOf(Write writes) {
            for (Write w = writes; w != null; w = w.earlier) {
                if (hasRead(w.name)) {
                    return true;
                }
            }
            return false;
        }

        boolean hasRead(int name) {
            for (Range r = ranges; r != null; r = r.earlier) {
                if (name >= r.low && name <= r.high) {
                    return true;
                }
            }
            return false;
        }
    }

    /**
     * What a transaction wrote, chained to what it wrote before. No link ever changes, so the head of the chain
     * alone tells all that was written at a place.
     */
    private static final class Write {
        final int name;
        final long content;
        final int keys;
        final Write earlier;

        Write(int name, long content, int keys, Write earlier) {
            this.name = name;
            this.content = content;
            this.keys = keys;
            this.earlier = earlier;
        }
    }

    private static final class Range {
        final int low;
        final int high;
        final Range earlier;

        Range(int low, int high, Range earlier) {
            this.low = low;
            this.high = high;
            this.earlier = earlier;
        }
    }

    private static final class Place {
        final int number;
        final Write latest;
        final Place earlier;

        Place(int number, Write latest, Place earlier) {
            this.number = number;
            this.latest = latest;
            this.earlier = earlier;
        }
    }

    private static final class Key {
        final int name;
        Key next;
        Version newest;

        Key(int name, Key next) {
            this.name = name;
            this.next = next;
        }

        Version versionAt(int stamp) {
            for (Version v = newest; v != null; v = v.older) {
                if (v.stamp <= stamp) {
                    return v;
                }
            }
            return null;
        }

        long contentAt(int stamp) {
            Version v = versionAt(stamp);
            return v == null ? NOTHING : v.content;
        }

        int versionCount() {
            int all = 0;
            for (Version v = newest; v != null; v = v.older) {
                all++;
            }
            return all;
        }

        boolean isInOrder(int clock) {
            for (Version v = newest; v != null; v = v.older) {
                if (v.stamp > clock || (v.older != null && v.older.stamp >= v.stamp)) {
                    return false;
                }
            }
            return true;
        }

        void unlink(Version v, Version newer) {
            if (newer == null) {
                newest = v.older;
            } else {
                newer.older = v.older;
            }
        }
    }

    private static final class Version {
        final int stamp;
        final long content;
        Version older;

        Version(int stamp, long content, Version older) {
            this.stamp = stamp;
            this.content = content;
            this.older = older;
        }
    }
}
