/** Each call that the document refuses, in each way that it names: the exception, and that nothing has changed. */
public final class RefusedTest {
    private static final Rows ROWS = new Rows();
    private static final String OUT = "IndexOutOfBoundsException", STATE = "IllegalStateException",
            ARGUMENT = "IllegalArgumentException";

    /**
     * 0 to 6 are ended, in each way there is; 8 and 9 are open, a snapshot one and a serial one, with two places. 7 has
     * an after, so that its commit tells whether an ended serial one is a before: 4 alone is, of one that writes MAX.
     */
    private static final String BUSY = """
        begin(0) = 0
        write(0, 1, 10) = 1
        write(0, 2, 20) = 2
        commit(0) = 1
        flush() = 1
        begin(0) = 1
        begin(0) = 2
        write(1, 1, 11) = 1
        write(2, 3, 30) = 1
        save(2) = 0
        commit(1) = 2
        crash() = 1
        begin(0) = 3
        write(3, 3, 31) = 1
        abort(3) = 1
        begin(1) = 4
        begin(1) = 5
        begin(1) = 6
        begin(1) = 7
        write(7, 0, 40) = 1
        read(7, 2) = 20
        read(4, 1) = 10
        found(4, MAX) = 0
        read(5, 2) = 20
        write(4, 2, 21) = 1
        write(5, 1, 12) = 1
        write(6, 2, 22) = 1
        commit(4) = 2
        commit(5) = -2
        commit(6) = -1
        begin(0) = 8
        begin(1) = 9
        save(8) = 0
        write(8, 1, 13) = 1
        save(8) = 1
        erase(8, 3) = 2
        save(9) = 0
        write(9, 2, 23) = 1
        save(9) = 1
        write(9, 3, 33) = 2
        read(9, 1) = 10
        """;

    private static final String[][] ENDED = {
        {"0", "committed, and safe"}, {"1", "lost"}, {"2", "aborted by a crash"}, {"3", "aborted"},
        {"4", "committed"}, {"5", "aborted as unsafe"}, {"6", "aborted by a conflict"}};
    private static final String[] MISSING = {"MIN", "-1", "10", "11", "119", "120", "121", "MAX"};

    /** Each call that wants an open transaction, once as it would be right, and once wrong in another way, too. */
    private static final String[] OF_OPEN = {
        "3 read(%s, 0)", "4 found(%s, 0)", "5 write(%s, 1, 99)", "5 write(%s, MAX, 99)", "6 erase(%s, 1)",
        "6 erase(%s, MIN)", "7 sum(%s, MIN, MAX)", "7 sum(%s, 1, 0)", "8 key(%s, MIN, 0)", "8 key(%s, MIN, -1)",
        "9 save(%s)", "10 back(%s, 0)", "10 back(%s, -1)", "10 back(%s, 20)", "11 commit(%s)", "12 abort(%s)"};

    private static void refused(int promise, String what, String rows, String call, String exception) {
        ROWS.refused(promise + ": " + what + ", " + call, rows, call, exception);
    }

    private static void ofOpenOnes() {
        for (String row : OF_OPEN) {
            int promise = Integer.parseInt(row.substring(0, row.indexOf(' ')));
            String call = row.substring(row.indexOf(' ') + 1);
            refused(promise, "there is no transaction at all", "", call.formatted("0"), OUT);
            for (String missing : MISSING) {
                refused(promise, "there is no such transaction", BUSY, call.formatted(missing), OUT);
            }
            for (String[] ended : ENDED) {
                refused(promise, "it is not open but " + ended[1], BUSY, call.formatted(ended[0]), STATE);
            }
        }
    }

    private static void begin() {
        String full = "119 * begin(1)\nwrite(118, 1, 1) = 1\ncommit(118) = 1\nbegin(0) = 119\n";
        for (String level : new String[] {"MIN", "-2", "-1", "2", "3", "MAX"}) {
            refused(2, "there is no such level, in a new object", "", "begin(" + level + ")", ARGUMENT);
            refused(2, "there is no such level", BUSY, "begin(" + level + ")", ARGUMENT);
            refused(2, "no such level is asked before that there are 120", full, "begin(" + level + ")", ARGUMENT);
        }
        for (String level : new String[] {"0", "1"}) {
            String call = "begin(" + level + ")";
            refused(2, "there are 120", full, call, STATE);
            refused(2, "there are 120, some ended", full + "abort(0) = 0\nabort(119) = 0", call, STATE);
            refused(2, "there are 120, all ended", full + "crash() = 1", call, STATE);
            refused(2, "there are 120, and it was refused before", full + call + " = throws." + STATE, call, STATE);
        }
    }

    private static void key() {
        for (String i : new String[] {"-1", "-2", "MIN"}) {
            for (String low : new String[] {"MIN", "1", "MAX"}) {
                String of = ", " + low + ", " + i + ")";
                refused(8, "i is below 0, of a snapshot one", BUSY, "key(8" + of, ARGUMENT);
                refused(8, "i is below 0, of a serial one", BUSY, "key(9" + of, ARGUMENT);
                refused(8, "i is below 0, and nothing is there", "begin(1) = 0", "key(0" + of, ARGUMENT);
            }
        }
    }

    private static void save() {
        String full = "begin(1) = 0\nbegin(0) = 1\n20 * save(0)\nwrite(0, 1, 1) = 1\n";
        refused(9, "there are 20", full, "save(0)", STATE);
        refused(9, "there are 20, and a way back to the last leaves them", full + "back(0, 19) = 0", "save(0)", STATE);
        refused(9, "there are 20 again", full + "back(0, 18) = 0\nsave(0) = 19", "save(0)", STATE);
        refused(9, "there are 20, and it was refused before", full + "save(0) = throws." + STATE, "save(0)", STATE);
        refused(9, "there were 20, and it is over", full + "abort(0) = 1", "save(0)", STATE);
    }

    private static void back() {
        for (String place : new String[] {"MIN", "-1", "2", "3", "19", "20", "MAX"}) {
            refused(10, "there is no such place, of a snapshot one", BUSY, "back(8, " + place + ")", ARGUMENT);
            refused(10, "there is no such place, of a serial one", BUSY, "back(9, " + place + ")", ARGUMENT);
        }
        for (String place : new String[] {"MIN", "-1", "0", "1", "MAX"}) {
            refused(10, "there is no place at all", "begin(0) = 0\nwrite(0, 1, 1) = 1",
                    "back(0, " + place + ")", ARGUMENT);
        }
        String gone = BUSY + "save(9) = 2\nback(9, 0) = 0\nwrite(9, 1, 5) = 1\n";
        refused(10, "the place behind that one is there no more", gone, "back(9, 1)", ARGUMENT);
        refused(10, "the last place is there no more", gone, "back(9, 2)", ARGUMENT);
        refused(10, "a later place is there no more, though one was made again",
                gone + "save(9) = 1", "back(9, 2)", ARGUMENT);
        refused(10, "the place is another's", BUSY + "save(8) = 2", "back(9, 2)", ARGUMENT);
        String full = "begin(0) = 0\n20 * save(0)\n";
        refused(10, "there are 20, from 0", full, "back(0, 20)", ARGUMENT);
    }

    private static void told() {
        for (String what : new String[] {"MIN", "-2", "-1", "7", "8", "MAX"}) {
            for (int t = 0; t <= 9; t++) {
                refused(16, "what is none of these", BUSY, "told(" + t + ", " + what + ")", ARGUMENT);
            }
            for (String missing : MISSING) {
                refused(16, "there is no such transaction, and what is none of these", BUSY,
                        "told(" + missing + ", " + what + ")", OUT);
            }
        }
        for (int what = 0; what <= 6; what++) {
            refused(16, "there is no transaction at all", "", "told(0, " + what + ")", OUT);
            for (String missing : MISSING) {
                refused(16, "there is no such transaction", BUSY, "told(" + missing + ", " + what + ")", OUT);
            }
        }
    }

    private static void begunByNone() {
        String tried = "begin(2) = throws." + ARGUMENT + "\nbegin(-1) = throws." + ARGUMENT;
        refused(2, "a refused begin makes none", tried, "read(0, 0)", OUT);
        refused(2, "a refused begin makes none", tried, "told(0, 0)", OUT);
        String full = "120 * begin(0)\nbegin(0) = throws." + STATE;
        refused(2, "a begin beyond the 120th makes none", full, "read(120, 0)", OUT);
        refused(2, "a begin beyond the 120th makes none", full, "told(120, 0)", OUT);
    }

    public static void main(String[] args) {
        ofOpenOnes();
        begin();
        begunByNone();
        key();
        save();
        back();
        told();
        ROWS.end();
    }
}
