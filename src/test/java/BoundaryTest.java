/**
 * Each boundary case of a promise that is answered, not refused, as a run of its own; a title begins with the promise.
 * Those of the terms are in TermsTest, the refused calls in RefusedTest.
 */
public final class BoundaryTest {
    private static final Rows ROWS = new Rows();

    private static void run(String title, String rows) {
        ROWS.run(title, rows);
    }

    private static void newObject() {
        for (int what = 0; what <= 6; what++) {
            run("1: empty, count " + what, "count(" + what + ") = 0");
        }
        run("1: nothing is astray in an empty one", "astray() = 0");
        run("1: nothing goes from an empty one", "vacuum() = 0\ncount(2) = 0");
        ROWS.runForInts("1: no key has a version or a value", """
            versions(@) = 0
            at(@, false) = 0
            at(@, true) = 0""");
        run("1: the first transaction is 0, and sees nothing", """
            begin(0) = 0
            told(0, 2) = 0
            sum(0, MIN, MAX) = 0
            key(0, MIN, 0) = 4294967296""");
    }

    private static void begin() {
        run("2: the least level and the greatest one", "begin(0) = 0\ntold(0, 1) = 0\nbegin(1) = 1\ntold(1, 1) = 1");
        run("2: the 120th is begun, and is one like the others", """
            119 * begin(0)
            begin(1) = 119
            count(5) = 120
            count(6) = 120
            write(119, 1, 7) = 1
            save(119) = 0
            commit(119) = 1
            told(119, 0) = 1
            at(1, false) = 7""");
        run("2: with 120 all else goes on", """
            120 * begin(0)
            begin(0) = throws.IllegalStateException
            write(0, 1, 7) = 1
            commit(0) = 1
            flush() = 1
            vacuum() = 0
            crash() = 0
            count(5) = 120
            count(6) = 0""");
        run("2: numbers go on rising, whatever has become of the earlier ones", """
            begin(0) = 0
            abort(0) = 0
            begin(0) = 1
            commit(1) = 1
            crash() = 1
            begin(0) = 2
            crash() = 0
            begin(0) = 3
            count(5) = 4""");
        run("2: the start is the clock, and behind a crash the safe stamp", """
            begin(0) = 0
            commit(0) = 1
            begin(0) = 1
            told(1, 2) = 1
            crash() = 1
            begin(0) = 2
            told(2, 2) = 0""");
    }

    private static void readAndFound() {
        run("3: 0 for a key that never was", "begin(0) = 0\nread(0, 1) = 0");
        run("3: 0 for a key that it has erased", """
            begin(0) = 0
            write(0, 1, 7) = 1
            commit(0) = 1
            begin(0) = 1
            erase(1, 1) = 1
            read(1, 1) = 0""");
        run("3: 0 for a key that is erased at its start", """
            begin(0) = 0
            erase(0, 1) = 1
            commit(0) = 1
            begin(0) = 1
            read(1, 1) = 0""");
        run("4: no key that never was", "begin(0) = 0\nfound(0, 1) = 0");
        run("4: none that it has erased", """
            begin(0) = 0
            write(0, 1, 7) = 1
            commit(0) = 1
            begin(0) = 1
            erase(1, 1) = 1
            found(1, 1) = 0""");
        run("4: none that is erased at its start", """
            begin(0) = 0
            erase(0, 1) = 1
            commit(0) = 1
            begin(0) = 1
            found(1, 1) = 0""");
        run("3, 4: reading writes nothing", """
            begin(1) = 0
            read(0, 1) = 0
            found(0, 2) = 0
            sum(0, MIN, MAX) = 0
            key(0, MIN, 0) = 4294967296
            told(0, 4) = 0
            commit(0) = 1
            count(2) = 0""");
    }

    private static void writeAndErase() {
        run("5: a key that is written again counts once", "begin(0) = 0\nwrite(0, 1, 7) = 1\nwrite(0, 1, 8) = 1");
        run("5: the same value that is there already is a write", """
            begin(0) = 0
            write(0, 1, 7) = 1
            commit(0) = 1
            begin(0) = 1
            write(1, 1, 7) = 1
            commit(1) = 2
            versions(1) = 2""");
        run("5: a key that was erased counts once",
                "begin(0) = 0\nerase(0, 1) = 1\nwrite(0, 1, 8) = 1\nread(0, 1) = 8");
        run("5: a key is counted again when it was taken back", """
            begin(0) = 0
            save(0) = 0
            write(0, 1, 7) = 1
            back(0, 0) = 0
            write(0, 1, 8) = 1""");
        run("5: each counts its own keys", """
            begin(0) = 0
            begin(0) = 1
            write(0, 1, 7) = 1
            write(0, 2, 7) = 2
            write(1, 1, 8) = 1""");
        run("6: erasing what it does not see is a write", """
            begin(0) = 0
            erase(0, 1) = 1
            told(0, 4) = 1
            commit(0) = 1
            versions(1) = 1
            count(4) = 0""");
        run("6: erasing what it sees is a write", """
            begin(0) = 0
            write(0, 1, 7) = 1
            commit(0) = 1
            begin(0) = 1
            erase(1, 1) = 1
            commit(1) = 2
            versions(1) = 2
            count(4) = 0""");
        run("6: erasing what it has written leaves it written", "begin(0) = 0\nwrite(0, 1, 7) = 1\nerase(0, 1) = 1");
        run("6: erasing twice counts once", "begin(0) = 0\nerase(0, 1) = 1\nerase(0, 1) = 1\nerase(0, 2) = 2");
    }

    private static void sum() {
        String ends = "begin(0) = 0\nwrite(0, MIN, 1) = 1\nwrite(0, 5, 10) = 2\nwrite(0, MAX, 100) = 3\n";
        run("7: a range that is empty by one", ends + "sum(0, 6, 5) = 0");
        run("7: a range from the greatest int to the smallest is empty", ends + "sum(0, MAX, MIN) = 0");
        run("7: a range from the smallest int to the greatest", ends + "sum(0, MIN, MAX) = 111");
        run("7: a range of one key", ends + "sum(0, 5, 5) = 10\nsum(0, 4, 4) = 0\nsum(0, 6, 6) = 0");
        run("7: a range of the smallest int alone", ends + "sum(0, MIN, MIN) = 1");
        run("7: a range of the greatest int alone", ends + "sum(0, MAX, MAX) = 100");
        run("7: both ends are in it", ends + "sum(0, MIN, 5) = 11\nsum(0, 5, MAX) = 110");
        run("7: one beside an end is not in it", ends + "sum(0, -2147483647, 2147483646) = 10\nsum(0, 6, MAX) = 100\n"
                + "sum(0, MIN, 4) = 1");
        run("7: a sum one above the greatest int", """
            begin(0) = 0
            write(0, 1, MAX) = 1
            write(0, 2, 1) = 2
            sum(0, 1, 2) = 2147483648""");
        run("7: a sum one below the smallest int", """
            begin(0) = 0
            write(0, 1, MIN) = 1
            write(0, 2, -1) = 2
            sum(0, 1, 2) = -2147483649""");
        run("7: a sum in which the greatest and the smallest int make -1", """
            begin(0) = 0
            write(0, 1, MIN) = 1
            write(0, 2, MAX) = 2
            sum(0, MIN, MAX) = -1""");
        run("7: a sum wider than an int, of versions", """
            begin(0) = 0
            write(0, MIN, MAX) = 1
            write(0, MAX, MAX) = 2
            commit(0) = 1
            begin(1) = 1
            write(1, 0, MAX) = 1
            sum(1, MIN, MAX) = 6442450941""");
        run("7: what is erased adds nothing", """
            begin(0) = 0
            write(0, 1, 7) = 1
            write(0, 2, 8) = 2
            commit(0) = 1
            begin(0) = 1
            erase(1, 1) = 1
            sum(1, MIN, MAX) = 8""");
        run("7: what it has written stands for what was there, not beside it", """
            begin(0) = 0
            write(0, 1, 7) = 1
            commit(0) = 1
            begin(0) = 1
            write(1, 1, 100) = 1
            sum(1, MIN, MAX) = 100""");
    }

    /** A run in which every write that 512 calls leave room for has the value. */
    private static void widestSum(String title, String value, long sum) {
        StringBuilder rows = new StringBuilder("begin(1) = 0\n");
        for (int i = 1; i <= 510; i++) {
            rows.append("write(0, ").append(i).append(", ").append(value).append(") = ").append(i).append('\n');
        }
        run(title, rows + "sum(0, MIN, MAX) = " + sum);
    }

    private static void widestSums() {
        widestSum("7: the greatest sum that there can be", "MAX", 510L * Integer.MAX_VALUE);
        widestSum("7: the smallest sum that there can be", "MIN", 510L * Integer.MIN_VALUE);
    }

    private static void key() {
        String three = "begin(0) = 0\nwrite(0, 30, 3) = 1\nwrite(0, 10, 1) = 2\nwrite(0, 20, 2) = 3\n";
        run("8: NO_KEY when nothing is there", "begin(0) = 0\nkey(0, MIN, 0) = 4294967296");
        run("8: NO_KEY when i is how many there are", three + "key(0, MIN, 2) = 30\nkey(0, MIN, 3) = 4294967296");
        run("8: NO_KEY when i is the greatest int", three + "key(0, MIN, MAX) = 4294967296");
        run("8: NO_KEY when all are below low", three + "key(0, 30, 0) = 30\nkey(0, 31, 0) = 4294967296");
        run("8: NO_KEY behind the greatest int", three + "key(0, MAX, 0) = 4294967296");
        run("8: the key that is low itself is not below it", three + "key(0, 10, 0) = 10\nkey(0, 11, 0) = 20");
        run("8: i counts from low, from 0",
                three + "key(0, 20, 0) = 20\nkey(0, 20, 1) = 30\nkey(0, 20, 2) = 4294967296");
        run("8: the greatest int is a key, not NO_KEY", """
            begin(0) = 0
            write(0, MAX, 5) = 1
            key(0, MAX, 0) = 2147483647
            key(0, MIN, 0) = 2147483647
            key(0, MAX, 1) = 4294967296""");
        run("8: the smallest int and -1 are keys", """
            begin(0) = 0
            write(0, -1, 5) = 1
            write(0, MIN, 5) = 2
            key(0, MIN, 0) = -2147483648
            key(0, MIN, 1) = -1
            key(0, -2147483647, 0) = -1""");
        run("8: an erased one is passed over, its own or one at its start", """
            begin(0) = 0
            write(0, 1, 5) = 1
            erase(0, 2) = 2
            write(0, 3, 5) = 3
            write(0, 4, 5) = 4
            commit(0) = 1
            begin(0) = 1
            erase(1, 3) = 1
            key(1, MIN, 0) = 1
            key(1, MIN, 1) = 4
            key(1, 2, 0) = 4
            key(1, MIN, 2) = 4294967296""");
        run("8: what it has written is passed once", """
            begin(0) = 0
            write(0, 1, 5) = 1
            commit(0) = 1
            begin(0) = 1
            write(1, 1, 6) = 1
            write(1, 1, 7) = 1
            write(1, 2, 7) = 2
            key(1, MIN, 0) = 1
            key(1, MIN, 1) = 2
            key(1, MIN, 2) = 4294967296""");
    }

    private static void save() {
        run("9: the first place is 0", "begin(0) = 0\nsave(0) = 0\nsave(0) = 1");
        run("9: the 20th place is 19, and one can go back to it", """
            begin(0) = 0
            19 * save(0)
            write(0, 1, 7) = 1
            save(0) = 19
            write(0, 2, 8) = 2
            told(0, 5) = 20
            back(0, 19) = 1
            told(0, 5) = 20
            found(0, 2) = 0
            back(0, 18) = 0
            told(0, 5) = 19""");
        run("9: with 20 all else goes on", """
            begin(0) = 0
            20 * save(0)
            save(0) = throws.IllegalStateException
            write(0, 1, 7) = 1
            read(0, 1) = 7
            commit(0) = 1""");
        run("9: with 20 another has room still", """
            begin(0) = 0
            begin(0) = 1
            20 * save(0)
            save(0) = throws.IllegalStateException
            save(1) = 0""");
        run("9: there is room again behind a way back", """
            begin(0) = 0
            20 * save(0)
            back(0, 0) = 0
            save(0) = 1
            18 * save(0)
            told(0, 5) = 20
            save(0) = throws.IllegalStateException""");
        run("9: a place changes nothing of what is written", """
            begin(0) = 0
            write(0, 1, 7) = 1
            save(0) = 0
            told(0, 4) = 1
            read(0, 1) = 7
            commit(0) = 1
            at(1, false) = 7""");
    }

    private static void back() {
        run("10: back to a place where nothing was written", """
            begin(0) = 0
            save(0) = 0
            write(0, 1, 7) = 1
            erase(0, 2) = 2
            back(0, 0) = 0
            told(0, 4) = 0
            found(0, 1) = 0
            commit(0) = 1
            count(2) = 0""");
        run("10: back where nothing was written since", """
            begin(0) = 0
            write(0, 1, 7) = 1
            save(0) = 0
            back(0, 0) = 1
            read(0, 1) = 7""");
        run("10: the place stays, and later ones are there no more", """
            begin(0) = 0
            save(0) = 0
            save(0) = 1
            save(0) = 2
            back(0, 1) = 0
            told(0, 5) = 2
            back(0, 2) = throws.IllegalArgumentException
            back(0, 1) = 0
            back(0, 0) = 0
            told(0, 5) = 1
            back(0, 1) = throws.IllegalArgumentException
            back(0, 0) = 0""");
        run("10: a place that is made again is where it was made last", """
            begin(0) = 0
            save(0) = 0
            write(0, 1, 7) = 1
            save(0) = 1
            back(0, 0) = 0
            write(0, 2, 8) = 1
            write(0, 3, 8) = 2
            save(0) = 1
            write(0, 1, 9) = 3
            back(0, 1) = 2
            found(0, 1) = 0
            found(0, 2) = 1""");
        run("10: an earlier value of a key is back", """
            begin(0) = 0
            write(0, 1, 7) = 1
            save(0) = 0
            write(0, 1, 8) = 1
            back(0, 0) = 1
            read(0, 1) = 7""");
        run("10: an erasing is taken back, and one from before stays", """
            begin(0) = 0
            write(0, 1, 7) = 1
            write(0, 2, 8) = 2
            commit(0) = 1
            begin(0) = 1
            erase(1, 1) = 1
            save(1) = 0
            erase(1, 2) = 2
            write(1, 1, 9) = 2
            back(1, 0) = 1
            found(1, 1) = 0
            read(1, 2) = 8""");
        run("10: one's way back leaves the others", """
            begin(0) = 0
            begin(0) = 1
            save(0) = 0
            save(1) = 0
            save(1) = 1
            write(0, 1, 7) = 1
            write(1, 1, 8) = 1
            back(0, 0) = 0
            read(1, 1) = 8
            told(1, 5) = 2""");
    }

    private static void commitAndAbort() {
        run("11: the first stamp is 1", "begin(0) = 0\ncommit(0) = 1");
        run("11: one that has written nothing gets a stamp, too", """
            begin(1) = 0
            commit(0) = 1
            told(0, 3) = 1
            count(0) = 1
            count(2) = 0""");
        run("11: each key that it has written has one version with that stamp, with what it wrote last", """
            begin(0) = 0
            write(0, 1, 7) = 1
            write(0, 2, 7) = 2
            write(0, 1, 8) = 2
            erase(0, 2) = 2
            commit(0) = 1
            versions(1) = 1
            versions(2) = 1
            at(1, false) = 8
            at(2, false) = 0
            astray() = 0""");
        run("12: one that has written nothing", "begin(0) = 0\nabort(0) = 0\ntold(0, 0) = 2\ncount(0) = 0");
        run("12: one that has written and erased", """
            begin(0) = 0
            write(0, 1, 7) = 1
            erase(0, 2) = 2
            abort(0) = 2
            count(2) = 0
            count(6) = 0""");
        run("12: one that has taken all back", """
            begin(0) = 0
            save(0) = 0
            write(0, 1, 7) = 1
            back(0, 0) = 0
            abort(0) = 0""");
    }

    /** Versions of key 1: 7 with the stamp 1, 8 with 2, 9 with 3; the safe stamp is 0 and nobody is open. */
    private static final String THREE_VERSIONS = """
        begin(0) = 0
        write(0, 1, 7) = 1
        commit(0) = 1
        begin(0) = 1
        write(1, 1, 8) = 1
        commit(1) = 2
        begin(0) = 2
        write(2, 1, 9) = 1
        commit(2) = 3
        """;

    private static void whatVacuumTakes() {
        run("13: nothing to do",
                "vacuum() = 0\nbegin(0) = 0\nwrite(0, 1, 7) = 1\nvacuum() = 0\ncommit(0) = 1\nvacuum() = 0");
        run("13: all but what the key has at the clock", THREE_VERSIONS + """
            vacuum() = 2
            versions(1) = 1
            at(1, false) = 9
            vacuum() = 0""");
        run("13: what the key has at the safe stamp stays", """
            begin(0) = 0
            write(0, 1, 7) = 1
            commit(0) = 1
            flush() = 1
            begin(0) = 1
            write(1, 1, 8) = 1
            commit(1) = 2
            begin(0) = 2
            write(2, 1, 9) = 1
            commit(2) = 3
            vacuum() = 1
            at(1, true) = 7
            at(1, false) = 9
            crash() = 2
            at(1, false) = 7""");
        run("13: what the key has at the start of an open one stays, the version at that stamp", """
            begin(0) = 0
            write(0, 1, 7) = 1
            commit(0) = 1
            begin(0) = 1
            begin(0) = 2
            write(2, 1, 8) = 1
            commit(2) = 2
            begin(0) = 3
            write(3, 1, 9) = 1
            commit(3) = 3
            vacuum() = 1
            versions(1) = 2
            read(1, 1) = 7""");
        run("13: what the key has at the start of an open one stays, a version below that stamp", """
            begin(0) = 0
            write(0, 1, 7) = 1
            commit(0) = 1
            begin(0) = 1
            write(1, 2, 5) = 1
            commit(1) = 2
            begin(0) = 2
            begin(0) = 3
            write(3, 1, 9) = 1
            commit(3) = 3
            vacuum() = 0
            read(2, 1) = 7""");
        run("13: a version one above the start is not what it has there", """
            begin(0) = 0
            begin(0) = 1
            write(1, 1, 7) = 1
            commit(1) = 1
            begin(0) = 2
            write(2, 1, 8) = 1
            commit(2) = 2
            vacuum() = 1
            versions(1) = 1
            found(0, 1) = 0""");
        for (String end : new String[] {"commit(1) = 3", "abort(1) = 0"}) {
            run("13: an ended one's start holds nothing, " + end, """
                begin(0) = 0
                write(0, 1, 7) = 1
                commit(0) = 1
                begin(0) = 1
                begin(0) = 2
                write(2, 1, 8) = 1
                commit(2) = 2
                vacuum() = 0
                %s
                vacuum() = 1
                versions(1) = 1""".formatted(end));
        }
        run("13: a lost one's start holds nothing, nor that of one that a crash aborted", """
            begin(0) = 0
            write(0, 1, 7) = 1
            commit(0) = 1
            begin(0) = 1
            begin(0) = 2
            begin(0) = 3
            write(3, 1, 8) = 1
            commit(3) = 2
            flush() = 2
            commit(2) = 3
            crash() = 1
            vacuum() = 1
            versions(1) = 1
            at(1, false) = 8""");
        run("13: it counts the versions of all keys", """
            begin(0) = 0
            write(0, MIN, 1) = 1
            write(0, MAX, 1) = 2
            erase(0, 5) = 3
            commit(0) = 1
            begin(0) = 1
            write(1, MIN, 2) = 1
            write(1, MAX, 2) = 2
            commit(1) = 2
            flush() = 2
            vacuum() = 3
            count(2) = 2
            count(3) = 2""");
    }

    private static void whatVacuumTakesOfTheErased() {
        run("13: an oldest one that is erased goes, if the least of the stamps is its own", """
            begin(0) = 0
            erase(0, 1) = 1
            commit(0) = 1
            flush() = 1
            vacuum() = 1
            versions(1) = 0
            count(3) = 0""");
        run("13: it goes, if all of the stamps are above its own", """
            begin(0) = 0
            erase(0, 1) = 1
            commit(0) = 1
            begin(0) = 1
            commit(1) = 2
            flush() = 2
            vacuum() = 1""");
        run("13: it stays, if the safe stamp is below its own", """
            begin(0) = 0
            erase(0, 1) = 1
            commit(0) = 1
            vacuum() = 0
            versions(1) = 1""");
        run("13: it stays, if an open one's start is below its own", """
            begin(0) = 0
            begin(0) = 1
            erase(1, 1) = 1
            commit(1) = 1
            flush() = 1
            vacuum() = 0
            versions(1) = 1""");
        run("13: it goes, if an open one's start is its own", """
            begin(0) = 0
            erase(0, 1) = 1
            commit(0) = 1
            flush() = 1
            begin(0) = 1
            vacuum() = 1
            found(1, 1) = 0
            write(1, 1, 7) = 1
            commit(1) = 2""");
        run("13: a start below its own does not hold it, if that one is over", """
            begin(0) = 0
            begin(0) = 1
            erase(1, 1) = 1
            commit(1) = 1
            flush() = 1
            abort(0) = 0
            vacuum() = 1""");
        run("13: an oldest one that is not erased stays, also with a value of 0", """
            begin(0) = 0
            write(0, 1, 0) = 1
            commit(0) = 1
            flush() = 1
            vacuum() = 0
            versions(1) = 1""");
        run("13: the oldest that is left goes, though a value stood below it", """
            begin(0) = 0
            write(0, 1, 7) = 1
            commit(0) = 1
            begin(0) = 1
            erase(1, 1) = 1
            commit(1) = 2
            flush() = 2
            vacuum() = 2
            versions(1) = 0""");
        run("13: an erased one above a value that is seen stays", """
            begin(0) = 0
            write(0, 1, 7) = 1
            commit(0) = 1
            begin(0) = 1
            begin(0) = 2
            erase(2, 1) = 1
            commit(2) = 2
            flush() = 2
            vacuum() = 0
            versions(1) = 2
            read(1, 1) = 7""");
        run("13: of an erased one and a value above it the erased one goes", """
            begin(0) = 0
            erase(0, 1) = 1
            commit(0) = 1
            flush() = 1
            begin(0) = 1
            write(1, 1, 7) = 1
            commit(1) = 2
            vacuum() = 1
            versions(1) = 1
            at(1, false) = 7
            at(1, true) = 0""");
        run("13: of two erased ones that are left the oldest goes, and no further one", """
            begin(0) = 0
            erase(0, 1) = 1
            commit(0) = 1
            flush() = 1
            begin(0) = 1
            erase(1, 1) = 1
            commit(1) = 2
            vacuum() = 1
            versions(1) = 1
            vacuum() = 0
            flush() = 1
            vacuum() = 1
            versions(1) = 0""");
        run("13: of three erased ones that are left the oldest goes, and no further one", """
            begin(0) = 0
            erase(0, 1) = 1
            commit(0) = 1
            flush() = 1
            begin(0) = 1
            erase(1, 1) = 1
            commit(1) = 2
            begin(0) = 2
            begin(0) = 3
            erase(3, 1) = 1
            commit(3) = 3
            vacuum() = 1
            versions(1) = 2
            vacuum() = 0""");
    }

    private static void flush() {
        run("14: nothing to do in a new object", "flush() = 0\ncount(1) = 0");
        run("14: nothing to do behind a flush", "begin(0) = 0\ncommit(0) = 1\nflush() = 1\nflush() = 0\ncount(1) = 1");
        run("14: an open or aborted one is no commit", """
            begin(0) = 0
            begin(0) = 1
            write(0, 1, 7) = 1
            abort(0) = 1
            flush() = 0
            count(6) = 1""");
        run("14: nothing to do behind a crash", "begin(0) = 0\ncommit(0) = 1\ncrash() = 1\nflush() = 0\ncount(1) = 0");
        run("14: commits that wrote nothing count",
                "begin(0) = 0\nbegin(0) = 1\ncommit(0) = 1\ncommit(1) = 2\nflush() = 2");
        run("14: stamps that a crash gave free are counted anew", """
            begin(0) = 0
            begin(0) = 1
            commit(0) = 1
            commit(1) = 2
            crash() = 2
            begin(0) = 2
            commit(2) = 1
            flush() = 1
            count(1) = 1""");
    }

    private static void crash() {
        run("15: nothing to do in a new object", "crash() = 0\ncount(0) = 0");
        run("15: nothing is lost behind a flush", """
            begin(0) = 0
            write(0, 1, 7) = 1
            commit(0) = 1
            flush() = 1
            crash() = 0
            told(0, 0) = 1
            at(1, false) = 7
            count(0) = 1""");
        run("15: nothing is left to do behind a crash", """
            begin(0) = 0
            commit(0) = 1
            crash() = 1
            crash() = 0
            told(0, 0) = 3""");
        run("15: one with the safe stamp stays, one with the next stamp is lost", """
            begin(0) = 0
            write(0, 1, 7) = 1
            commit(0) = 1
            flush() = 1
            begin(0) = 1
            write(1, 1, 8) = 1
            commit(1) = 2
            crash() = 1
            told(0, 0) = 1
            told(1, 0) = 3
            count(0) = 1
            versions(1) = 1
            at(1, false) = 7
            at(1, true) = 7""");
        run("15: all is lost without a flush", THREE_VERSIONS + """
            crash() = 3
            count(0) = 0
            count(2) = 0
            count(3) = 0
            count(4) = 0
            told(0, 0) = 3
            told(2, 0) = 3""");
        run("15: open ones are aborted, and are not counted", """
            begin(0) = 0
            begin(1) = 1
            write(0, 1, 7) = 1
            save(0) = 0
            crash() = 0
            told(0, 0) = 2
            told(1, 0) = 2
            told(0, 4) = 1
            told(0, 5) = 0
            count(6) = 0""");
        run("15: aborted ones stay aborted, and are not counted", """
            begin(0) = 0
            abort(0) = 0
            begin(0) = 1
            commit(1) = 1
            crash() = 1
            told(0, 0) = 2""");
        run("15: lost ones stay lost, though their stamps come again and are safe", """
            begin(0) = 0
            commit(0) = 1
            crash() = 1
            begin(0) = 1
            commit(1) = 1
            flush() = 1
            told(0, 0) = 3
            crash() = 0
            told(0, 0) = 3
            told(1, 0) = 1""");
        run("15: an erasing that is lost gives the value back", """
            begin(0) = 0
            write(0, 1, 7) = 1
            commit(0) = 1
            flush() = 1
            begin(0) = 1
            erase(1, 1) = 1
            commit(1) = 2
            at(1, false) = 0
            crash() = 1
            at(1, false) = 7
            count(4) = 1""");
        run("15: behind a crash the clock goes on from the safe stamp", """
            begin(0) = 0
            commit(0) = 1
            flush() = 1
            begin(0) = 1
            commit(1) = 2
            crash() = 1
            begin(0) = 2
            write(2, 1, 7) = 1
            commit(2) = 2
            at(1, false) = 7
            astray() = 0""");
    }

    private static void told() {
        run("16: an open one that has done nothing", """
            begin(0) = 0
            told(0, 0) = 0
            told(0, 1) = 0
            told(0, 2) = 0
            told(0, 3) = -1
            told(0, 4) = 0
            told(0, 5) = 0
            told(0, 6) = 0""");
        run("16: NONE of an aborted one", "begin(0) = 0\nabort(0) = 0\ntold(0, 3) = -1");
        run("16: NONE of one that a crash aborted", "begin(0) = 0\ncrash() = 0\ntold(0, 3) = -1");
        run("16: its stamp when it is committed", "begin(0) = 0\ntold(0, 3) = -1\ncommit(0) = 1\ntold(0, 3) = 1");
        run("16: its stamp when it is lost, for it was committed",
                "begin(0) = 0\ncommit(0) = 1\ncrash() = 1\ntold(0, 3) = 1");
        String two = "begin(0) = 0\nsave(0) = 0\nwrite(0, 1, 7) = 1\nerase(0, 2) = 2\nsave(0) = 1\n";
        String over = "\ntold(0, 4) = 2\ntold(0, 5) = 0";
        run("16: what it had written, and no place, when it is committed", two + "commit(0) = 1" + over);
        run("16: what it had written, and no place, when it is aborted", two + "abort(0) = 2" + over);
        run("16: what it had written, and no place, when a crash aborted it", two + "crash() = 0" + over);
        run("16: what it had written, and no place, when it is lost", two + "commit(0) = 1\ncrash() = 1" + over);
        run("16: what it had written, and no place, by a conflict",
                two + "begin(0) = 1\nwrite(1, 1, 1) = 1\ncommit(1) = 1\ncommit(0) = -1" + over);
        run("16: what it had written when it ended is the same behind a vacuum",
                two + "commit(0) = 1\nflush() = 1\nvacuum() = 1" + over);
        run("16: what was taken back it had not written when it ended",
                two + "back(0, 0) = 0\ncommit(0) = 1\ntold(0, 4) = 0");
        run("16: no after while it is open, 1 when it was committed with one, and when it is lost", """
            begin(1) = 0
            begin(1) = 1
            read(0, 1) = 0
            write(1, 1, 7) = 1
            commit(1) = 1
            told(0, 6) = 0
            commit(0) = 2
            told(0, 6) = 1
            told(1, 6) = 0
            crash() = 2
            told(0, 6) = 1""");
        run("16: no after of one that was not committed", """
            begin(1) = 0
            begin(1) = 1
            read(0, 1) = 0
            write(1, 1, 7) = 1
            commit(1) = 1
            abort(0) = 0
            told(0, 6) = 0""");
        run("16: the start is told as it was, also behind a crash", """
            begin(0) = 0
            commit(0) = 1
            begin(0) = 1
            commit(1) = 2
            crash() = 2
            told(1, 2) = 1""");
    }

    private static void atAndVersions() {
        run("17: 0 for none", "at(1, false) = 0\nat(1, true) = 0");
        run("17: 0 for what is written, but not committed",
                "begin(0) = 0\nwrite(0, 1, 7) = 1\nat(1, false) = 0\nat(1, true) = 0");
        run("17: 0 at the safe stamp for what came one above it", """
            begin(0) = 0
            write(0, 1, 7) = 1
            commit(0) = 1
            at(1, true) = 0
            at(1, false) = 7""");
        run("17: the value at the safe stamp of what came just with it", """
            begin(0) = 0
            write(0, 1, 7) = 1
            commit(0) = 1
            flush() = 1
            at(1, true) = 7""");
        run("17: 0 for an erased one, at the clock and at the safe stamp", """
            begin(0) = 0
            write(0, 1, 7) = 1
            commit(0) = 1
            flush() = 1
            begin(0) = 1
            erase(1, 1) = 1
            commit(1) = 2
            at(1, false) = 0
            at(1, true) = 7
            flush() = 1
            at(1, true) = 0""");
        run("17: a key beside one that has a value has none", """
            begin(0) = 0
            write(0, 1, 7) = 1
            commit(0) = 1
            at(0, false) = 0
            at(2, false) = 0""");
        run("18: none of a key that never was", "versions(1) = 0");
        run("18: none of a key that is written, but not committed",
                "begin(0) = 0\nwrite(0, 1, 7) = 1\nversions(1) = 0");
        run("18: none of a key whose writer was aborted",
                "begin(0) = 0\nwrite(0, 1, 7) = 1\nabort(0) = 1\nversions(1) = 0");
        run("18: one with each commit", THREE_VERSIONS + "versions(1) = 3\nversions(0) = 0\nversions(2) = 0");
        run("18: an erased one is a version", "begin(0) = 0\nerase(0, 1) = 1\ncommit(0) = 1\nversions(1) = 1");
    }

    private static void countAndAstray() {
        for (String what : new String[] {"MIN", "-2", "-1", "7", "8", "MAX"}) {
            run("19: NONE for another what, in an empty one", "count(" + what + ") = -1");
            run("19: NONE for another what", THREE_VERSIONS + "count(" + what + ") = -1");
        }
        run("19: each what has its own number", """
            begin(0) = 0
            write(0, 1, 1) = 1
            write(0, 2, 1) = 2
            write(0, 3, 1) = 3
            commit(0) = 1
            flush() = 1
            begin(0) = 1
            erase(1, 1) = 1
            write(1, 2, 2) = 2
            write(1, 4, 2) = 3
            write(1, 5, 2) = 4
            write(1, 6, 2) = 5
            commit(1) = 2
            8 * begin(0)
            abort(2) = 0
            count(0) = 2
            count(1) = 1
            count(2) = 8
            count(3) = 6
            count(4) = 5
            count(5) = 10
            count(6) = 7""");
        run("19: keys that have no version any more are not counted", """
            begin(0) = 0
            erase(0, 1) = 1
            write(0, 2, 7) = 2
            commit(0) = 1
            flush() = 1
            count(3) = 2
            vacuum() = 1
            count(3) = 1
            count(2) = 1""");
        run("19: keys whose versions a crash took are not counted", """
            begin(0) = 0
            write(0, 1, 7) = 1
            commit(0) = 1
            count(3) = 1
            count(4) = 1
            crash() = 1
            count(3) = 0
            count(4) = 0""");
        run("19: transactions are counted when they are over, open ones are not", """
            begin(0) = 0
            begin(0) = 1
            begin(0) = 2
            commit(0) = 1
            abort(1) = 0
            count(5) = 3
            count(6) = 1
            crash() = 1
            count(5) = 3
            count(6) = 0""");
        run("20: nothing is astray behind commits, a vacuum, a crash, and stamps that come again", THREE_VERSIONS + """
            astray() = 0
            flush() = 3
            begin(0) = 3
            write(3, 1, 4) = 1
            write(3, 2, 4) = 2
            commit(3) = 4
            vacuum() = 2
            astray() = 0
            crash() = 1
            astray() = 0
            begin(0) = 4
            write(4, 2, 5) = 1
            write(4, 1, 5) = 2
            commit(4) = 4
            astray() = 0""");
    }

    public static void main(String[] args) {
        newObject();
        begin();
        readAndFound();
        writeAndErase();
        sum();
        widestSums();
        key();
        save();
        back();
        commitAndAbort();
        whatVacuumTakes();
        whatVacuumTakesOfTheErased();
        flush();
        crash();
        told();
        atAndVersions();
        countAndAstray();
        ROWS.end();
    }
}
