/**
 * Each boundary case that the document's terms name, as a run of its own: which keys and values there are, the stamps
 * on either side of a start, CONFLICT and UNSAFE, and what is read (there a title begins with the promise that reads).
 */
public final class TermsTest {
    private static final Rows ROWS = new Rows();

    private static void run(String title, String rows) {
        ROWS.run(title, rows);
    }

    private static void keysAndValues() {
        ROWS.runForInts("terms: any int is a key", """
            begin(1) = 0
            found(0, @) = 0
            write(0, @, 5) = 1
            found(0, @) = 1
            read(0, @) = 5
            sum(0, @, @) = 5
            key(0, MIN, 0) = #
            key(0, @, 0) = #
            key(0, @, 1) = 4294967296
            commit(0) = 1
            at(@, false) = 5
            versions(@) = 1
            count(3) = 1
            begin(0) = 1
            erase(1, @) = 1
            found(1, @) = 0
            sum(1, MIN, MAX) = 0
            commit(1) = 2
            versions(@) = 2
            flush() = 2
            vacuum() = 2
            versions(@) = 0""");
        ROWS.runForInts("terms: any int is a value", """
            begin(0) = 0
            write(0, 1, @) = 1
            read(0, 1) = #
            found(0, 1) = 1
            sum(0, MIN, MAX) = #
            commit(0) = 1
            at(1, false) = #
            count(4) = 1
            flush() = 1
            at(1, true) = #
            vacuum() = 0
            begin(1) = 1
            read(1, 1) = #
            found(1, 1) = 1
            key(1, MIN, 0) = 1
            sum(1, 1, 1) = #""");
        run("terms: a key with a value of 0 is there", """
            begin(0) = 0
            write(0, 1, 0) = 1
            commit(0) = 1
            count(4) = 1
            flush() = 1
            vacuum() = 0
            versions(1) = 1
            begin(0) = 1
            read(1, 1) = 0
            found(1, 1) = 1
            key(1, MIN, 0) = 1""");
        run("terms: an erased key has a version, but no value", """
            begin(0) = 0
            write(0, 1, 7) = 1
            erase(0, 1) = 1
            commit(0) = 1
            versions(1) = 1
            count(2) = 1
            count(3) = 1
            count(4) = 0
            at(1, false) = 0
            begin(0) = 1
            found(1, 1) = 0
            key(1, MIN, 0) = 4294967296""");
        run("terms: keys on either side of 0 and at both ends are kept apart", """
            begin(0) = 0
            write(0, MIN, 1) = 1
            write(0, MAX, 2) = 2
            write(0, 0, 3) = 3
            write(0, -1, 4) = 4
            read(0, MIN) = 1
            read(0, MAX) = 2
            read(0, 0) = 3
            read(0, -1) = 4
            key(0, MIN, 1) = -1
            key(0, MIN, 2) = 0
            key(0, MIN, 3) = 2147483647""");
    }

    private static void clockAndStart() {
        run("terms: the clock is one more with each commit, also with one that wrote nothing", """
            count(0) = 0
            begin(0) = 0
            begin(1) = 1
            commit(0) = 1
            count(0) = 1
            commit(1) = 2
            count(0) = 2
            count(2) = 0""");
        run("terms: a version whose stamp is the start is seen", """
            begin(0) = 0
            write(0, 1, 7) = 1
            commit(0) = 1
            begin(0) = 1
            told(1, 2) = 1
            read(1, 1) = 7
            sum(1, MIN, MAX) = 7
            key(1, MIN, 0) = 1""");
        run("terms: a version whose stamp is one above the start is not seen", """
            begin(0) = 0
            begin(0) = 1
            write(0, 1, 7) = 1
            commit(0) = 1
            told(1, 2) = 0
            read(1, 1) = 0
            found(1, 1) = 0
            sum(1, MIN, MAX) = 0
            key(1, MIN, 0) = 4294967296""");
        run("terms: an older version is seen though there is one above the start", """
            begin(0) = 0
            write(0, 1, 7) = 1
            commit(0) = 1
            begin(0) = 1
            begin(0) = 2
            write(1, 1, 8) = 1
            commit(1) = 2
            begin(0) = 3
            read(2, 1) = 7
            read(3, 1) = 8""");
        run("terms: an erasing above the start takes nothing from what is seen", """
            begin(0) = 0
            write(0, 1, 7) = 1
            commit(0) = 1
            begin(0) = 1
            begin(0) = 2
            erase(1, 1) = 1
            commit(1) = 2
            begin(0) = 3
            found(2, 1) = 1
            found(3, 1) = 0""");
        run("terms: what another has written, but not committed, is not seen", """
            begin(0) = 0
            begin(0) = 1
            write(0, 1, 7) = 1
            found(1, 1) = 0
            begin(0) = 2
            found(2, 1) = 0
            at(1, false) = 0
            abort(0) = 1
            begin(0) = 3
            found(3, 1) = 0""");
        run("terms: what it wrote itself last is seen before what the key has at its start", """
            begin(0) = 0
            write(0, 1, 7) = 1
            commit(0) = 1
            begin(0) = 1
            write(1, 1, 8) = 1
            write(1, 1, 9) = 1
            read(1, 1) = 9
            erase(1, 1) = 1
            found(1, 1) = 0
            write(1, 1, 7) = 1
            read(1, 1) = 7""");
    }

    private static void conflict() {
        run("terms: CONFLICT with a stamp one above the start", """
            begin(0) = 0
            begin(0) = 1
            write(0, 1, 7) = 1
            write(1, 1, 8) = 1
            commit(0) = 1
            commit(1) = -1""");
        run("terms: no conflict with a stamp that is the start", """
            begin(0) = 0
            write(0, 1, 7) = 1
            commit(0) = 1
            begin(0) = 1
            write(1, 1, 8) = 1
            commit(1) = 2""");
        run("terms: CONFLICT in one key of several, whichever was written first", """
            begin(0) = 0
            begin(0) = 1
            begin(0) = 2
            write(0, 1, 7) = 1
            write(1, 1, 8) = 1
            write(1, 2, 8) = 2
            write(2, 2, 8) = 1
            write(2, 1, 8) = 2
            commit(0) = 1
            commit(1) = -1
            commit(2) = -1
            count(2) = 1""");
        run("terms: CONFLICT with an erasing, and of an erasing", """
            begin(0) = 0
            begin(0) = 1
            begin(0) = 2
            erase(0, 1) = 1
            erase(1, 1) = 1
            write(2, 1, 8) = 1
            commit(0) = 1
            commit(1) = -1
            commit(2) = -1""");
        run("terms: with CONFLICT it is aborted, the clock stays, and no version comes", """
            begin(0) = 0
            begin(0) = 1
            write(0, 1, 7) = 1
            write(1, 1, 8) = 1
            write(1, 2, 8) = 2
            commit(0) = 1
            commit(1) = -1
            told(1, 0) = 2
            told(1, 3) = -1
            told(1, 4) = 2
            count(0) = 1
            count(2) = 1
            at(1, false) = 7
            versions(2) = 0""");
        run("terms: no conflict by a key that was written, but taken back", """
            begin(0) = 0
            begin(0) = 1
            save(1) = 0
            write(0, 1, 7) = 1
            write(1, 1, 8) = 1
            commit(0) = 1
            back(1, 0) = 0
            commit(1) = 2""");
        run("terms: no conflict by a key that is only read, of a snapshot one", """
            begin(0) = 0
            begin(0) = 1
            read(1, 1) = 0
            write(0, 1, 7) = 1
            commit(0) = 1
            write(1, 2, 8) = 1
            commit(1) = 2""");
        run("terms: no conflict with one that was aborted", """
            begin(0) = 0
            begin(0) = 1
            write(0, 1, 7) = 1
            write(1, 1, 8) = 1
            abort(0) = 1
            commit(1) = 1""");
        run("terms: no conflict with what a crash has lost", """
            begin(0) = 0
            write(0, 1, 7) = 1
            commit(0) = 1
            crash() = 1
            begin(0) = 1
            write(1, 1, 8) = 1
            commit(1) = 1""");
        run("terms: CONFLICT with a key that was erased, and vacuumed while it was open", """
            begin(0) = 0
            begin(0) = 1
            erase(0, 1) = 1
            commit(0) = 1
            flush() = 1
            vacuum() = 0
            write(1, 1, 8) = 1
            commit(1) = -1""");
        run("terms: CONFLICT is asked before UNSAFE", """
            begin(1) = 0
            begin(1) = 1
            begin(1) = 2
            read(0, 1) = 0
            read(1, 2) = 0
            write(1, 1, 8) = 1
            write(1, 3, 8) = 2
            write(2, 2, 9) = 1
            write(2, 3, 9) = 2
            commit(2) = 1
            commit(1) = -1""");
    }

    private static void afterAndBefore() {
        run("terms: UNSAFE with an after and a before that is open", """
            begin(1) = 0
            begin(1) = 1
            begin(1) = 2
            read(0, 1) = 0
            read(1, 2) = 0
            write(1, 1, 8) = 1
            write(2, 2, 9) = 1
            commit(2) = 1
            commit(1) = -2""");
        run("terms: with UNSAFE it is aborted, the clock stays, and no version comes", """
            begin(1) = 0
            begin(1) = 1
            read(0, 2) = 0
            read(1, 1) = 0
            write(0, 1, 7) = 1
            write(1, 2, 8) = 1
            commit(0) = 1
            commit(1) = -2
            told(1, 0) = 2
            told(1, 3) = -1
            told(1, 4) = 1
            told(1, 6) = 0
            count(0) = 1
            count(2) = 1
            versions(2) = 0""");
        run("terms: a before that is open may have begun later", """
            begin(1) = 0
            begin(1) = 1
            read(0, 2) = 0
            write(0, 1, 8) = 1
            write(1, 2, 9) = 1
            commit(1) = 1
            begin(1) = 2
            found(2, 1) = 0
            commit(0) = -2""");
        run("terms: UNSAFE with a before that committed one above the start", """
            begin(1) = 0
            begin(1) = 1
            begin(1) = 2
            read(0, 2) = 0
            read(1, 1) = 0
            write(0, 1, 8) = 1
            write(2, 2, 9) = 1
            commit(1) = 1
            commit(2) = 2
            commit(0) = -2""");
        run("terms: no before, if it committed at the start", """
            begin(1) = 0
            read(0, 1) = 0
            commit(0) = 1
            begin(1) = 1
            begin(1) = 2
            read(1, 2) = 0
            write(1, 1, 8) = 1
            write(2, 2, 9) = 1
            commit(2) = 2
            commit(1) = 3
            told(1, 6) = 1""");
        run("terms: an after committed one above the start", """
            begin(1) = 0
            begin(1) = 1
            write(0, 1, 7) = 1
            commit(0) = 1
            read(1, 1) = 0
            commit(1) = 2
            told(1, 6) = 1""");
        run("terms: no after, if it committed at the start", """
            begin(1) = 0
            write(0, 1, 7) = 1
            commit(0) = 1
            begin(1) = 1
            read(1, 1) = 7
            commit(1) = 2
            told(1, 6) = 0""");
        run("terms: no after, if it is open still, or aborted", """
            begin(1) = 0
            begin(1) = 1
            begin(1) = 2
            sum(0, MIN, MAX) = 0
            write(1, 1, 7) = 1
            write(2, 2, 7) = 1
            abort(2) = 1
            commit(0) = 1
            told(0, 6) = 0""");
        run("terms: an after that wrote nothing of what was read is none", """
            begin(1) = 0
            begin(1) = 1
            read(0, 1) = 0
            write(1, 2, 7) = 1
            read(1, 1) = 0
            commit(1) = 1
            commit(0) = 2
            told(0, 6) = 0""");
        run("terms: what it had written, but taken back, makes no after", """
            begin(1) = 0
            begin(1) = 1
            read(0, 1) = 0
            save(1) = 0
            write(1, 1, 7) = 1
            back(1, 0) = 0
            commit(1) = 1
            commit(0) = 2
            told(0, 6) = 0""");
        run("terms: what t has written, but taken back, makes no before", """
            begin(1) = 0
            begin(1) = 1
            begin(1) = 2
            read(0, 2) = 0
            read(1, 1) = 0
            save(0) = 0
            write(0, 1, 7) = 1
            back(0, 0) = 0
            write(2, 2, 9) = 1
            commit(2) = 1
            commit(0) = 2
            told(0, 6) = 1""");
        run("terms: an erasing makes an after, and a before", """
            begin(1) = 0
            begin(1) = 1
            begin(1) = 2
            read(0, 2) = 0
            read(1, 1) = 0
            erase(0, 1) = 1
            erase(2, 2) = 1
            commit(2) = 1
            commit(0) = -2""");
        othersAfterAndBefore();
    }

    private static void othersAfterAndBefore() {
        run("terms: UNSAFE with an after that had an after, and without a before", """
            begin(1) = 0
            begin(1) = 1
            begin(1) = 2
            read(1, 2) = 0
            write(1, 1, 7) = 1
            write(2, 2, 9) = 1
            commit(2) = 1
            commit(1) = 2
            told(1, 6) = 1
            read(0, 1) = 0
            commit(0) = -2""");
        run("terms: it counts whether the after had one when it committed, not later", """
            begin(1) = 0
            begin(1) = 1
            begin(1) = 2
            read(1, 2) = 0
            write(1, 1, 7) = 1
            commit(1) = 1
            write(2, 2, 9) = 1
            commit(2) = 2
            told(1, 6) = 0
            read(0, 1) = 0
            commit(0) = 3
            told(0, 6) = 1""");
        run("terms: of several after, one that had an after is enough", """
            begin(1) = 0
            begin(1) = 1
            begin(1) = 2
            begin(1) = 3
            read(0, 3) = 0
            read(1, 2) = 0
            write(3, 3, 3) = 1
            write(2, 2, 9) = 1
            write(1, 1, 7) = 1
            commit(3) = 1
            commit(2) = 2
            commit(1) = 3
            read(0, 1) = 0
            commit(0) = -2""");
        run("terms: a before alone is safe", """
            begin(1) = 0
            begin(1) = 1
            read(1, 1) = 0
            write(0, 1, 7) = 1
            commit(0) = 1
            told(0, 6) = 0""");
        run("terms: an after alone is safe", """
            begin(1) = 0
            begin(1) = 1
            read(0, 1) = 0
            write(0, 2, 7) = 1
            write(1, 1, 7) = 1
            commit(1) = 1
            commit(0) = 2
            told(0, 6) = 1""");
        run("terms: it is no before of itself", """
            begin(1) = 0
            begin(1) = 1
            read(0, 1) = 0
            read(0, 2) = 0
            write(0, 1, 7) = 1
            write(1, 2, 9) = 1
            commit(1) = 1
            commit(0) = 2
            told(0, 6) = 1""");
        run("terms: an aborted one is no before", """
            begin(1) = 0
            begin(1) = 1
            begin(1) = 2
            read(0, 2) = 0
            read(1, 1) = 0
            write(0, 1, 7) = 1
            write(2, 2, 9) = 1
            commit(2) = 1
            abort(1) = 0
            commit(0) = 2
            told(0, 6) = 1""");
        run("terms: a snapshot one is no before, open or committed", """
            begin(1) = 0
            begin(0) = 1
            begin(0) = 2
            begin(1) = 3
            read(0, 2) = 0
            read(1, 1) = 0
            read(2, 1) = 0
            write(0, 1, 7) = 1
            write(3, 2, 9) = 1
            commit(2) = 1
            commit(3) = 2
            commit(0) = 3
            told(0, 6) = 1""");
        run("terms: a snapshot one is no after", """
            begin(1) = 0
            begin(0) = 1
            read(0, 1) = 0
            write(1, 1, 7) = 1
            commit(1) = 1
            commit(0) = 2
            told(0, 6) = 0""");
        run("terms: a snapshot one has neither, and is never unsafe", """
            begin(0) = 0
            begin(1) = 1
            read(0, 1) = 0
            read(1, 2) = 0
            write(0, 2, 7) = 1
            write(1, 1, 9) = 1
            commit(1) = 1
            commit(0) = 2
            told(0, 6) = 0""");
        run("terms: a lost one is no after", """
            begin(1) = 0
            write(0, 1, 7) = 1
            commit(0) = 1
            crash() = 1
            begin(1) = 1
            read(1, 1) = 0
            commit(1) = 1
            told(1, 6) = 0""");
        run("terms: a lost one is no before", """
            begin(1) = 0
            begin(0) = 1
            read(0, 1) = 0
            commit(1) = 1
            commit(0) = 2
            crash() = 2
            begin(1) = 2
            begin(1) = 3
            read(2, 2) = 0
            write(2, 1, 7) = 1
            write(3, 2, 9) = 1
            commit(3) = 1
            commit(2) = 2
            told(2, 6) = 1""");
        run("terms: what is written stays written behind a vacuum", """
            begin(1) = 0
            begin(1) = 1
            read(0, 1) = 0
            write(1, 1, 7) = 1
            commit(1) = 1
            begin(0) = 2
            write(2, 1, 8) = 1
            commit(2) = 2
            vacuum() = 1
            commit(0) = 3
            told(0, 6) = 1""");
    }

    /** Whether a serial one that makes the calls has then read the key: whether one that writes it is its after. */
    private static void reads(String title, String calls, String key, boolean read) {
        run(title, """
            begin(0) = 0
            write(0, 10, 1) = 1
            write(0, 20, 2) = 2
            write(0, 30, 3) = 3
            commit(0) = 1
            begin(1) = 1
            begin(1) = 2
            write(2, %s, 9) = 1
            %s
            commit(2) = 2
            commit(1) = 3
            told(1, 6) = %d""".formatted(key, calls, read ? 1 : 0));
    }

    private static void whatIsRead() {
        reads("3: a key that is there is read", "read(1, 10) = 1", "10", true);
        reads("3: a key that is not there is read", "read(1, 15) = 0", "15", true);
        reads("3: the key below is not read", "read(1, 10) = 1", "9", false);
        reads("3: the key above is not read", "read(1, 10) = 1", "11", false);
        reads("3: the smallest int is read", "read(1, MIN) = 0", "MIN", true);
        reads("3: the greatest int is read", "read(1, MAX) = 0", "MAX", true);
        reads("3: the greatest int is not read with the smallest", "read(1, MIN) = 0", "MAX", false);
        reads("3: the smallest int is not read with the greatest", "read(1, MAX) = 0", "MIN", false);
        reads("4: a key that is there is read", "found(1, 10) = 1", "10", true);
        reads("4: a key that is not there is read", "found(1, 15) = 0", "15", true);
        reads("4: the key below is not read", "found(1, 10) = 1", "9", false);
        reads("4: the key above is not read", "found(1, 10) = 1", "11", false);
        reads("5: a key is not read by writing", "save(1) = 0\nwrite(1, 10, 5) = 1\nback(1, 0) = 0", "10", false);
        reads("6: a key is not read by erasing", "save(1) = 0\nerase(1, 10) = 1\nback(1, 0) = 0", "10", false);
        reads("7: the key at low is read, though nothing is there", "sum(1, 5, 25) = 3", "5", true);
        reads("7: the key at high is read, though nothing is there", "sum(1, 5, 25) = 3", "25", true);
        reads("7: a key between that is there is read", "sum(1, 5, 25) = 3", "20", true);
        reads("7: a key between that is not there is read", "sum(1, 5, 25) = 3", "15", true);
        reads("7: the key below low is not read", "sum(1, 5, 25) = 3", "4", false);
        reads("7: the key above high is not read", "sum(1, 5, 25) = 3", "26", false);
        reads("7: a range of one key reads it", "sum(1, 15, 15) = 0", "15", true);
        reads("7: a range of one key reads none below", "sum(1, 15, 15) = 0", "14", false);
        reads("7: a range of one key reads none above", "sum(1, 15, 15) = 0", "16", false);
        reads("7: an empty range does not read its low", "sum(1, 20, 10) = 0", "20", false);
        reads("7: an empty range does not read its high", "sum(1, 20, 10) = 0", "10", false);
        reads("7: an empty range does not read what is between", "sum(1, 20, 10) = 0", "15", false);
        reads("7: the emptiest range reads nothing", "sum(1, MAX, MIN) = 0", "MIN", false);
        for (String key : Rows.INTS) {
            reads("7: the whole range reads " + key, "sum(1, MIN, MAX) = 6", key, true);
        }
        reads("8: the key at low is read", "key(1, 5, 0) = 10", "5", true);
        reads("8: the key that is told is read", "key(1, 5, 0) = 10", "10", true);
        reads("8: a key on the way that is there is read", "key(1, 5, 1) = 20", "10", true);
        reads("8: a key on the way that is not there is read", "key(1, 5, 1) = 20", "15", true);
        reads("8: the key below low is not read", "key(1, 5, 1) = 20", "4", false);
        reads("8: the key above that one is not read", "key(1, 5, 1) = 20", "21", false);
        reads("8: the next key that is there is not read", "key(1, 5, 1) = 20", "30", false);
        reads("8: without one, the greatest int is read", "key(1, 5, 3) = 4294967296", "MAX", true);
        reads("8: without one, what is behind the last is read", "key(1, 31, 0) = 4294967296", "100", true);
        reads("8: without one, low is read", "key(1, 31, 0) = 4294967296", "31", true);
        reads("8: without one, the key below low is not read", "key(1, 31, 0) = 4294967296", "30", false);
        reads("8: from the greatest int, it is read", "key(1, MAX, 0) = 4294967296", "MAX", true);
        reads("8: from the greatest int, none below is read", "key(1, MAX, 0) = 4294967296", "2147483646", false);
        reads("8: from the smallest int, it is read", "key(1, MIN, 0) = 10", "MIN", true);
        reads("8: nothing is read where i is below 0",
                "key(1, MIN, -1) = throws.IllegalArgumentException", "10", false);
        reads("10: what is read stays read", "save(1) = 0\nread(1, 10) = 1\nback(1, 0) = 0", "10", true);
        reads("10: a range that is read stays read", "save(1) = 0\nsum(1, 5, 25) = 3\nback(1, 0) = 0", "15", true);
        reads("terms: what is read of one's own is read",
                "save(1) = 0\nwrite(1, 15, 5) = 1\nread(1, 15) = 5\nback(1, 0) = 0", "15", true);
        reads("terms: of several ranges that are read the first one still is",
                "read(1, 1) = 0\nread(1, 3) = 0", "1", true);
        reads("terms: what is between two keys that are read is not", "read(1, 1) = 0\nread(1, 3) = 0", "2", false);
        reads("16: nothing is read by being told", "told(1, 4) = 0\nat(10, false) = 1\nversions(10) = 1", "10", false);
    }

    public static void main(String[] args) {
        keysAndValues();
        clockAndStart();
        conflict();
        afterAndBefore();
        whatIsRead();
        ROWS.end();
    }
}
