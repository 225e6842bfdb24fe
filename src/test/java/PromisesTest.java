/** For each promise of the document, runs of calls on new objects, each row with the answer that is due. */
public final class PromisesTest {
    private static final Rows ROWS = new Rows();

    private static void run(String title, String rows) {
        ROWS.run(title, rows);
    }

    private static void newObject() {
        run("1: a new object is empty", """
            count(0) = 0
            count(1) = 0
            count(2) = 0
            count(3) = 0
            count(4) = 0
            count(5) = 0
            count(6) = 0
            at(0, false) = 0
            at(0, true) = 0
            versions(0) = 0
            astray() = 0
            vacuum() = 0
            flush() = 0
            crash() = 0
            told(0, 0) = throws.IndexOutOfBoundsException
            begin(1) = 0
            key(0, MIN, 0) = 4294967296
            sum(0, MIN, MAX) = 0""");
        SnapshotStore one = new SnapshotStore();
        SnapshotStore other = new SnapshotStore();
        one.write(one.begin(0), 1, 1);
        one.commit(0);
        if (other.count(0) != 0 || other.count(5) != 0 || other.at(1, false) != 0) {
            ROWS.complain("1: two objects", "a new one that is empty", "one that another's calls changed");
        }
    }

    private static void begin() {
        run("2: numbers, levels and starts", """
            begin(0) = 0
            begin(1) = 1
            told(0, 1) = 0
            told(1, 1) = 1
            told(0, 0) = 0
            told(0, 2) = 0
            commit(0) = 1
            begin(0) = 2
            told(2, 2) = 1
            begin(-1) = throws.IllegalArgumentException
            begin(2) = throws.IllegalArgumentException
            begin(MIN) = throws.IllegalArgumentException
            begin(MAX) = throws.IllegalArgumentException
            count(5) = 3""");
        run("2: there are at most 120, ended ones too, and a wrong level is told first", """
            begin(0) = 0
            abort(0) = 0
            118 * begin(1)
            count(5) = 119
            begin(1) = 119
            begin(0) = throws.IllegalStateException
            begin(1) = throws.IllegalStateException
            begin(2) = throws.IllegalArgumentException
            count(5) = 120
            told(119, 0) = 0
            told(120, 0) = throws.IndexOutOfBoundsException
            crash() = 0
            begin(0) = throws.IllegalStateException""");
    }

    private static void readAndFound() {
        run("3, 4: what is seen of a key", """
            begin(0) = 0
            read(0, 7) = 0
            found(0, 7) = 0
            write(0, 7, 70) = 1
            read(0, 7) = 70
            found(0, 7) = 1
            begin(0) = 1
            read(1, 7) = 0
            commit(0) = 1
            read(1, 7) = 0
            found(1, 7) = 0
            begin(0) = 2
            read(2, 7) = 70
            found(2, 7) = 1
            erase(2, 7) = 1
            read(2, 7) = 0
            found(2, 7) = 0
            write(2, 7, 0) = 1
            read(2, 7) = 0
            found(2, 7) = 1
            write(2, MIN, MIN) = 2
            write(2, MAX, MAX) = 3
            read(2, MIN) = -2147483648
            read(2, MAX) = 2147483647
            write(2, -1, -1) = 4
            read(2, -1) = -1""");
        run("3, 4: wrong transactions", """
            read(0, 0) = throws.IndexOutOfBoundsException
            found(0, 0) = throws.IndexOutOfBoundsException
            begin(1) = 0
            read(-1, 0) = throws.IndexOutOfBoundsException
            found(-1, 0) = throws.IndexOutOfBoundsException
            read(1, 0) = throws.IndexOutOfBoundsException
            found(MAX, 0) = throws.IndexOutOfBoundsException
            read(MIN, 0) = throws.IndexOutOfBoundsException
            found(120, 0) = throws.IndexOutOfBoundsException
            abort(0) = 0
            read(0, 0) = throws.IllegalStateException
            found(0, 0) = throws.IllegalStateException""");
    }

    /** Two that each do what is asked, and then write what the other one read. */
    private static void unsafeByReading(String title, String reading, int key) {
        run(title, """
            begin(0) = 0
            write(0, 10, 1) = 1
            write(0, 20, 2) = 2
            commit(0) = 1
            begin(1) = 1
            begin(1) = 2
            read(2, 99) = 0
            %s
            write(1, 99, 1) = 1
            write(2, %d, 1) = 1
            commit(2) = 2
            commit(1) = -2""".formatted(reading, key));
    }

    private static void safeByReading(String title, String reading, int key) {
        run(title, """
            begin(0) = 0
            write(0, 10, 1) = 1
            write(0, 20, 2) = 2
            commit(0) = 1
            begin(1) = 1
            begin(1) = 2
            read(2, 99) = 0
            %s
            write(1, 99, 1) = 1
            write(2, %d, 1) = 1
            commit(2) = 2
            commit(1) = 3
            told(1, 6) = 0""".formatted(reading, key));
    }

    private static void whatIsRead() {
        unsafeByReading("3: a read key is read", "read(1, 10) = 1", 10);
        unsafeByReading("3: a read key is read though nothing is there", "read(1, 50) = 0", 50);
        unsafeByReading("3: a key is read though it is one's own", "erase(1, 99) = 1\nread(1, 50) = 0", 50);
        safeByReading("3: no other key is read", "read(1, 10) = 1", 11);
        unsafeByReading("4: a key looked for is read", "found(1, 10) = 1", 10);
        unsafeByReading("4: a key looked for in vain is read", "found(1, -50) = 0", -50);
        safeByReading("4: no other key is read", "found(1, 10) = 1", 9);
        safeByReading("5: a written key is not read", "save(1) = 0\nwrite(1, 98, 1) = 1\nback(1, 0) = 0", 98);
        unsafeByReading("7: the low end of a sum is read", "sum(1, 5, 15) = 1", 5);
        unsafeByReading("7: the high end of a sum is read", "sum(1, 5, 15) = 1", 15);
        unsafeByReading("7: the midst of a sum is read", "sum(1, MIN, MAX) = 3", 0);
        safeByReading("7: what is below a sum is not read", "sum(1, 5, 15) = 1", 4);
        safeByReading("7: what is above a sum is not read", "sum(1, 5, 15) = 1", 16);
        safeByReading("7: nothing is read by an empty sum", "sum(1, 15, 5) = 0", 10);
        unsafeByReading("8: a key found by its place is read", "key(1, 5, 0) = 10", 10);
        unsafeByReading("8: all keys from low are read", "key(1, 5, 0) = 10", 5);
        unsafeByReading("8: all keys up to that one are read", "key(1, 5, 1) = 20", 19);
        safeByReading("8: what is behind that one is not read", "key(1, 5, 0) = 10", 11);
        safeByReading("8: what is below low is not read", "key(1, 5, 1) = 20", 4);
        unsafeByReading("8: with none, all up to the greatest int are read",
                "key(1, 5, 9) = 4294967296", Integer.MAX_VALUE);
        safeByReading("8: with none, what is below low is not read", "key(1, 5, 9) = 4294967296", 4);
        safeByReading("8: a call that throws reads nothing", "key(1, 5, -1) = throws.IllegalArgumentException", 10);
        unsafeByReading("10: what is read stays read",
                "save(1) = 0\nread(1, 10) = 1\nback(1, 0) = 0", 10);
    }

    private static void writeAndErase() {
        run("5, 6: how many keys are written", """
            begin(0) = 0
            write(0, 1, 1) = 1
            write(0, 1, 2) = 1
            erase(0, 1) = 1
            erase(0, 2) = 2
            erase(0, 2) = 2
            write(0, 2, 5) = 2
            write(0, MIN, 5) = 3
            write(0, MAX, 5) = 4
            told(0, 4) = 4
            count(2) = 0
            count(3) = 0
            read(0, 2) = 5
            commit(0) = 1
            count(2) = 4
            count(3) = 4
            count(4) = 3
            versions(1) = 1
            at(1, false) = 0
            at(2, false) = 5
            at(MIN, false) = 5""");
        run("5, 6: wrong transactions", """
            write(0, 0, 0) = throws.IndexOutOfBoundsException
            erase(0, 0) = throws.IndexOutOfBoundsException
            begin(0) = 0
            write(-1, 0, 0) = throws.IndexOutOfBoundsException
            erase(-1, 0) = throws.IndexOutOfBoundsException
            write(1, 0, 0) = throws.IndexOutOfBoundsException
            erase(1, 0) = throws.IndexOutOfBoundsException
            commit(0) = 1
            write(0, 0, 0) = throws.IllegalStateException
            erase(0, 0) = throws.IllegalStateException
            told(0, 4) = 0""");
    }

    private static void sum() {
        run("7: sums", """
            begin(0) = 0
            write(0, MIN, MIN) = 1
            write(0, 5, MIN) = 2
            write(0, MAX, MIN) = 3
            sum(0, MIN, MAX) = -6442450944
            sum(0, MIN, 5) = -4294967296
            sum(0, 5, 5) = -2147483648
            sum(0, 6, 2147483646) = 0
            sum(0, MAX, MIN) = 0
            commit(0) = 1
            begin(0) = 1
            erase(1, MIN) = 1
            write(1, MAX, MAX) = 2
            write(1, 4, 1) = 3
            sum(1, MIN, MAX) = 0
            sum(1, 5, MAX) = -1
            begin(0) = 2
            commit(1) = 2
            sum(2, MIN, MAX) = -6442450944
            sum(3, 0, 0) = throws.IndexOutOfBoundsException
            sum(-1, 0, 0) = throws.IndexOutOfBoundsException
            sum(1, 0, 0) = throws.IllegalStateException""");
    }

    private static void key() {
        run("8: keys by their place", """
            begin(0) = 0
            write(0, 30, 0) = 1
            write(0, 10, 0) = 2
            write(0, 20, 0) = 3
            commit(0) = 1
            begin(0) = 1
            erase(1, 20) = 1
            erase(1, 40) = 2
            write(1, 15, 1) = 3
            write(1, MIN, 1) = 4
            write(1, MAX, 1) = 5
            key(1, MIN, 0) = -2147483648
            key(1, MIN, 1) = 10
            key(1, MIN, 2) = 15
            key(1, MIN, 3) = 30
            key(1, MIN, 4) = 2147483647
            key(1, MIN, 5) = 4294967296
            key(1, MIN, MAX) = 4294967296
            key(1, 10, 0) = 10
            key(1, 11, 0) = 15
            key(1, 20, 0) = 30
            key(1, MAX, 0) = 2147483647
            key(1, MAX, 1) = 4294967296
            begin(0) = 2
            key(2, MIN, 1) = 20
            key(2, 31, 0) = 4294967296""");
        run("8: wrong transactions and places, in the order of the document", """
            key(0, 0, -1) = throws.IndexOutOfBoundsException
            begin(1) = 0
            key(-1, 0, -1) = throws.IndexOutOfBoundsException
            key(1, 0, 0) = throws.IndexOutOfBoundsException
            key(0, 0, -1) = throws.IllegalArgumentException
            key(0, 0, MIN) = throws.IllegalArgumentException
            abort(0) = 0
            key(0, 0, -1) = throws.IllegalStateException
            key(0, 0, 0) = throws.IllegalStateException""");
    }

    private static void saveAndBack() {
        run("9, 10: places", """
            begin(0) = 0
            save(0) = 0
            write(0, 1, 1) = 1
            save(0) = 1
            save(0) = 2
            write(0, 1, 2) = 1
            erase(0, 2) = 2
            save(0) = 3
            told(0, 5) = 4
            back(0, 3) = 2
            read(0, 1) = 2
            back(0, 1) = 1
            told(0, 5) = 2
            told(0, 4) = 1
            read(0, 1) = 1
            back(0, 2) = throws.IllegalArgumentException
            write(0, 5, 5) = 2
            back(0, 1) = 1
            found(0, 5) = 0
            save(0) = 2
            back(0, 0) = 0
            found(0, 1) = 0
            back(0, 0) = 0
            write(0, 3, 3) = 1
            commit(0) = 1
            count(2) = 1
            versions(1) = 0
            told(0, 5) = 0""");
        run("9: at most 20 places, and room again behind a way back", """
            begin(0) = 0
            begin(1) = 1
            19 * save(0)
            save(0) = 19
            save(0) = throws.IllegalStateException
            told(0, 5) = 20
            save(1) = 0
            back(0, 20) = throws.IllegalArgumentException
            back(0, 19) = 0
            save(0) = throws.IllegalStateException
            back(0, 18) = 0
            save(0) = 19
            save(0) = throws.IllegalStateException""");
        run("9, 10: wrong transactions and places", """
            save(0) = throws.IndexOutOfBoundsException
            back(0, 0) = throws.IndexOutOfBoundsException
            begin(0) = 0
            back(0, 0) = throws.IllegalArgumentException
            back(0, -1) = throws.IllegalArgumentException
            save(0) = 0
            back(0, -1) = throws.IllegalArgumentException
            back(0, MIN) = throws.IllegalArgumentException
            back(0, MAX) = throws.IllegalArgumentException
            save(-1) = throws.IndexOutOfBoundsException
            back(1, -1) = throws.IndexOutOfBoundsException
            commit(0) = 1
            save(0) = throws.IllegalStateException
            back(0, 0) = throws.IllegalStateException
            back(0, -1) = throws.IllegalStateException""");
        run("10: what is taken back was not written at the commit", """
            begin(0) = 0
            begin(0) = 1
            write(0, 1, 1) = 1
            commit(0) = 1
            save(1) = 0
            write(1, 1, 2) = 1
            back(1, 0) = 0
            commit(1) = 2
            at(1, false) = 1
            versions(1) = 1""");
    }

    private static void commitFirstWins() {
        run("11: the first to commit wins", """
            begin(0) = 0
            begin(1) = 1
            begin(0) = 2
            erase(0, 1) = 1
            write(1, 1, 2) = 1
            write(1, 2, 2) = 2
            write(2, 2, 2) = 1
            commit(0) = 1
            commit(1) = -1
            told(1, 0) = 2
            told(1, 3) = -1
            told(1, 4) = 2
            commit(2) = 2
            count(0) = 2
            at(2, false) = 2
            begin(0) = 3
            write(3, 1, 4) = 1
            commit(3) = 3
            at(1, false) = 4""");
        run("11: an empty one is committed, and a conflict that nothing is left of but a version that is seen", """
            begin(0) = 0
            commit(0) = 1
            begin(0) = 1
            begin(0) = 2
            erase(2, 5) = 1
            commit(2) = 2
            flush() = 2
            vacuum() = 0
            write(1, 5, 5) = 1
            commit(1) = -1
            vacuum() = 1""");
        run("11: wrong transactions", """
            commit(0) = throws.IndexOutOfBoundsException
            begin(0) = 0
            commit(-1) = throws.IndexOutOfBoundsException
            commit(1) = throws.IndexOutOfBoundsException
            commit(0) = 1
            commit(0) = throws.IllegalStateException
            begin(0) = 1
            abort(1) = 0
            commit(1) = throws.IllegalStateException
            count(0) = 1""");
    }

    private static void commitSerial() {
        run("11: an after and an open before", """
            begin(1) = 0
            begin(1) = 1
            begin(1) = 2
            read(0, 1) = 0
            read(1, 2) = 0
            write(1, 1, 1) = 1
            write(2, 2, 2) = 1
            commit(2) = 1
            commit(1) = -2
            told(1, 0) = 2
            told(1, 6) = 0
            commit(0) = 2
            count(0) = 2""");
        run("11: an after that had an after itself", """
            begin(1) = 0
            begin(1) = 1
            begin(1) = 2
            read(0, 1) = 0
            read(1, 2) = 0
            write(2, 2, 2) = 1
            commit(2) = 1
            write(1, 1, 1) = 1
            abort(0) = 0
            begin(1) = 3
            commit(1) = 2
            told(1, 6) = 1
            read(3, 1) = 0
            commit(3) = -2""");
        run("11: an after alone, and a before alone, are safe", """
            begin(1) = 0
            begin(1) = 1
            read(0, 1) = 0
            write(1, 1, 1) = 1
            commit(1) = 1
            told(1, 6) = 0
            write(0, 2, 2) = 1
            commit(0) = 2
            told(0, 6) = 1""");
        run("11: a before that committed at or below the start is none", """
            begin(1) = 0
            read(0, 1) = 0
            commit(0) = 1
            begin(1) = 1
            begin(1) = 2
            read(1, 2) = 0
            write(1, 1, 1) = 1
            write(2, 2, 2) = 1
            commit(2) = 2
            commit(1) = 3
            told(1, 6) = 1""");
        run("11: an after that committed at the start is none", """
            begin(1) = 0
            write(0, 1, 1) = 1
            commit(0) = 1
            begin(1) = 1
            read(1, 1) = 1
            commit(1) = 2
            told(1, 6) = 0""");
        run("11: one's own reading is no before, nor that of an aborted one", """
            begin(1) = 0
            begin(1) = 1
            begin(1) = 2
            read(0, 1) = 0
            read(0, 2) = 0
            write(0, 1, 1) = 1
            read(2, 1) = 0
            abort(2) = 0
            write(1, 2, 2) = 1
            commit(1) = 1
            commit(0) = 2
            told(0, 6) = 1""");
        run("11: a conflict is told before what is unsafe", """
            begin(1) = 0
            begin(1) = 1
            read(0, 1) = 0
            read(1, 1) = 0
            write(0, 1, 1) = 1
            write(1, 1, 2) = 1
            commit(0) = 1
            commit(1) = -1""");
        snapshotOnesAreLeftAlone();
    }

    private static void snapshotOnesAreLeftAlone() {
        run("11: what a snapshot one reads or writes makes nothing unsafe", """
            begin(1) = 0
            begin(0) = 1
            begin(1) = 2
            read(0, 1) = 0
            read(0, 2) = 0
            read(1, 3) = 0
            write(0, 3, 3) = 1
            write(1, 1, 1) = 1
            commit(1) = 1
            write(2, 2, 2) = 1
            commit(2) = 2
            commit(0) = 3
            told(0, 6) = 1
            told(1, 6) = 0""");
        run("11: a snapshot one is no after", """
            begin(1) = 0
            begin(0) = 1
            read(0, 1) = 0
            write(1, 1, 1) = 1
            commit(1) = 1
            commit(0) = 2
            told(0, 6) = 0""");
        run("11: a snapshot one is never unsafe", """
            begin(0) = 0
            begin(1) = 1
            read(0, 1) = 0
            read(1, 2) = 0
            write(0, 2, 2) = 1
            write(1, 1, 1) = 1
            commit(1) = 1
            commit(0) = 2
            told(0, 6) = 0""");
        run("11: what a vacuum took is still an after", """
            begin(1) = 0
            begin(1) = 1
            begin(1) = 2
            read(0, 1) = 0
            read(2, 5) = 0
            write(1, 1, 1) = 1
            commit(1) = 1
            begin(0) = 3
            write(3, 1, 3) = 1
            commit(3) = 2
            vacuum() = 1
            write(0, 5, 5) = 1
            commit(0) = -2""");
    }

    private static void abort() {
        run("12: abort", """
            begin(0) = 0
            write(0, 1, 1) = 1
            erase(0, 2) = 2
            save(0) = 0
            abort(0) = 2
            told(0, 0) = 2
            told(0, 3) = -1
            told(0, 4) = 2
            told(0, 5) = 0
            count(0) = 0
            count(2) = 0
            count(6) = 0
            abort(0) = throws.IllegalStateException
            abort(1) = throws.IndexOutOfBoundsException
            abort(-1) = throws.IndexOutOfBoundsException
            begin(0) = 1
            found(1, 1) = 0
            abort(1) = 0""");
    }

    private static void vacuum() {
        run("13: what is seen by nobody goes", """
            begin(0) = 0
            write(0, 1, 1) = 1
            commit(0) = 1
            flush() = 1
            begin(0) = 1
            write(1, 1, 2) = 1
            commit(1) = 2
            begin(0) = 2
            begin(0) = 3
            write(3, 1, 3) = 1
            commit(3) = 3
            begin(0) = 4
            write(4, 1, 4) = 1
            commit(4) = 4
            versions(1) = 4
            vacuum() = 1
            versions(1) = 3
            vacuum() = 0
            read(2, 1) = 2
            at(1, true) = 1
            at(1, false) = 4
            abort(2) = 0
            vacuum() = 1
            versions(1) = 2
            flush() = 3
            vacuum() = 1
            versions(1) = 1
            at(1, true) = 4
            astray() = 0""");
        run("13: an oldest erased one goes, if no stamp is below its own, and no further one", """
            begin(0) = 0
            erase(0, 1) = 1
            erase(0, 2) = 2
            commit(0) = 1
            flush() = 1
            begin(0) = 1
            erase(1, 1) = 1
            write(1, 2, 2) = 2
            commit(1) = 2
            vacuum() = 2
            versions(1) = 1
            versions(2) = 1
            vacuum() = 0
            flush() = 1
            vacuum() = 1
            versions(1) = 0
            count(3) = 1
            at(2, false) = 2""");
        run("13: a version that is covered just at an open transaction's start goes", """
            begin(0) = 0
            write(0, 1, 1) = 1
            commit(0) = 1
            begin(0) = 1
            write(1, 1, 2) = 1
            commit(1) = 2
            begin(0) = 2
            vacuum() = 1
            read(2, 1) = 2""");
        run("13: an erased one that an open transaction began below stays", """
            begin(0) = 0
            begin(0) = 1
            erase(1, 1) = 1
            commit(1) = 1
            flush() = 1
            vacuum() = 0
            versions(1) = 1
            abort(0) = 0
            vacuum() = 1
            versions(1) = 0
            count(3) = 0""");
        run("13: a value that is seen stays, though its key is erased above it", """
            begin(0) = 0
            write(0, 1, 0) = 1
            commit(0) = 1
            begin(0) = 1
            begin(0) = 2
            erase(2, 1) = 1
            commit(2) = 2
            flush() = 2
            vacuum() = 0
            found(1, 1) = 1
            commit(1) = 3
            vacuum() = 2""");
    }

    private static void flushAndCrash() {
        run("14, 15: what is flushed stays, what came behind it is lost", """
            begin(0) = 0
            write(0, 1, 1) = 1
            commit(0) = 1
            begin(0) = 1
            commit(1) = 2
            flush() = 2
            flush() = 0
            count(1) = 2
            begin(0) = 2
            write(2, 1, 2) = 1
            write(2, 2, 2) = 2
            begin(1) = 3
            save(3) = 0
            write(3, 9, 9) = 1
            commit(2) = 3
            begin(0) = 4
            abort(4) = 0
            at(1, false) = 2
            at(1, true) = 1
            count(0) = 3
            crash() = 1
            count(0) = 2
            count(1) = 2
            count(2) = 1
            count(3) = 1
            count(6) = 0
            at(1, false) = 1
            versions(2) = 0
            told(0, 0) = 1
            told(1, 0) = 1
            told(2, 0) = 3
            told(2, 3) = 3
            told(2, 4) = 2
            told(3, 0) = 2
            told(3, 4) = 1
            told(3, 5) = 0
            told(4, 0) = 2
            astray() = 0
            crash() = 0
            read(2, 1) = throws.IllegalStateException
            read(3, 1) = throws.IllegalStateException
            begin(0) = 5
            told(5, 2) = 2
            write(5, 1, 5) = 1
            commit(5) = 3
            flush() = 1
            crash() = 0
            at(1, false) = 5""");
        run("15: a lost one is no after and no before, and tells that it had an after", """
            begin(1) = 0
            begin(1) = 1
            read(0, 1) = 0
            write(1, 1, 1) = 1
            commit(1) = 1
            commit(0) = 2
            crash() = 2
            told(0, 6) = 1
            told(0, 0) = 3
            begin(1) = 2
            read(2, 1) = 0
            begin(0) = 3
            commit(3) = 1
            commit(2) = 2
            told(2, 6) = 0""");
    }

    private static void told() {
        run("16: what is told of a transaction", """
            begin(0) = 0
            commit(0) = 1
            begin(1) = 1
            write(1, 1, 1) = 1
            save(1) = 0
            told(1, 0) = 0
            told(1, 1) = 1
            told(1, 2) = 1
            told(1, 3) = -1
            told(1, 4) = 1
            told(1, 5) = 1
            told(1, 6) = 0
            commit(1) = 2
            told(1, 0) = 1
            told(1, 2) = 1
            told(1, 3) = 2
            told(1, 4) = 1
            told(1, 5) = 0
            told(1, 7) = throws.IllegalArgumentException
            told(1, -1) = throws.IllegalArgumentException
            told(1, MIN) = throws.IllegalArgumentException
            told(1, MAX) = throws.IllegalArgumentException
            told(2, 0) = throws.IndexOutOfBoundsException
            told(2, 7) = throws.IndexOutOfBoundsException
            told(-1, -1) = throws.IndexOutOfBoundsException
            told(MIN, 0) = throws.IndexOutOfBoundsException
            told(MAX, 0) = throws.IndexOutOfBoundsException""");
    }

    private static void atAndVersions() {
        run("17, 18: values at the clock and at the safe stamp, and how many versions there are", """
            begin(0) = 0
            write(0, MIN, -5) = 1
            write(0, 0, 6) = 2
            at(MIN, false) = 0
            versions(MIN) = 0
            commit(0) = 1
            at(MIN, false) = -5
            at(MIN, true) = 0
            flush() = 1
            at(MIN, true) = -5
            begin(0) = 1
            erase(1, MIN) = 1
            write(1, MAX, MIN) = 2
            commit(1) = 2
            at(MIN, false) = 0
            at(MIN, true) = -5
            at(MAX, false) = -2147483648
            at(MAX, true) = 0
            at(0, false) = 6
            at(0, true) = 6
            at(1, false) = 0
            versions(MIN) = 2
            versions(0) = 1
            versions(MAX) = 1
            versions(1) = 0
            versions(-1) = 0""");
    }

    private static void countAndAstray() {
        run("19, 20: counts, and nothing is astray", """
            begin(0) = 0
            begin(0) = 1
            begin(1) = 2
            write(0, 1, 0) = 1
            write(0, 2, 2) = 2
            commit(0) = 1
            flush() = 1
            begin(0) = 3
            erase(3, 1) = 1
            write(3, 3, 3) = 2
            erase(3, 4) = 3
            commit(3) = 2
            count(0) = 2
            count(1) = 1
            count(2) = 5
            count(3) = 4
            count(4) = 2
            count(5) = 4
            count(6) = 2
            count(7) = -1
            count(-1) = -1
            count(MIN) = -1
            count(MAX) = -1
            astray() = 0
            crash() = 1
            astray() = 0
            count(4) = 2
            count(6) = 0
            begin(0) = 4
            write(4, 1, 7) = 1
            commit(4) = 2
            versions(1) = 2
            astray() = 0""");
    }

    private static void readmeExample() {
        run("the example of README.md", """
            begin(1) = 0
            write(0, 5, 70) = 1
            save(0) = 0
            erase(0, 5) = 1
            back(0, 0) = 1
            commit(0) = 1
            flush() = 1
            crash() = 0
            at(5, false) = 70
            vacuum() = 0""");
    }

    public static void main(String[] args) {
        newObject();
        begin();
        readAndFound();
        whatIsRead();
        writeAndErase();
        sum();
        key();
        saveAndBack();
        commitFirstWins();
        commitSerial();
        abort();
        vacuum();
        flushAndCrash();
        told();
        atAndVersions();
        countAndAstray();
        readmeExample();
        ROWS.end();
    }
}
