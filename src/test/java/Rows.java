import java.util.List;

/**
 * Plays runs of calls on new objects, and counts the answers that are not as due. A row is 'call = answer'; an answer
 * 'throws.E' wants the exception E; '3 * call' makes a call three times; a row without an answer takes any.
 */
final class Rows {
    // No answer of an object is promised behind this many calls, so no test may lean on one.
    private static final int MOST_CALLS = 512;

    static final String[] INTS = {"MIN", "-2147483647", "-1", "0", "1", "2147483646", "MAX"};

    private int runs = 0;
    private int wrong = 0;

    void run(String title, String rows) {
        runs++;
        play(title, new SnapshotStore(), rows);
    }

    /** Rows in which '@' stands for each int at an edge, and '#' for it as it is answered. */
    void runForInts(String title, String rows) {
        for (String edge : INTS) {
            String plain = edge.equals("MIN") ? "-2147483648" : edge.equals("MAX") ? "2147483647" : edge;
            run(title + ", " + edge, rows.replace("@", edge).replace("#", plain));
        }
    }

    /** The call is refused behind the rows with the exception, and nothing that can be asked has changed by it. */
    void refused(String title, String rows, String call, String exception) {
        run(title, rows + "\n" + call + " = throws." + exception);
        SnapshotStore asked = new SnapshotStore();
        play(title, asked, rows);
        for (List<String> ending : Endings.of(asked)) {
            compare(title, rows, call, ending);
        }
    }

    /** Of two objects only one gets the refused call; what follows is answered alike by both. */
    private void compare(String title, String rows, String call, List<String> ending) {
        SnapshotStore with = new SnapshotStore();
        SnapshotStore without = new SnapshotStore();
        int made = play(title, with, rows) + 1 + ending.size();
        play(title, without, rows);
        Calls.answer(with, call);
        for (String next : ending) {
            String due = Calls.answer(without, next);
            String got = Calls.answer(with, next);
            if (!got.equals(due)) {
                complain(title, next + " = " + due + " behind the refused " + call, got);
                return;
            }
        }
        checkLength(title, made);
    }

    private int play(String title, SnapshotStore x, String rows) {
        int made = 0;
        for (String row : rows.strip().lines().toList()) {
            String[] sides = row.trim().split(" = ");
            String[] times = sides[0].split(" \\* ");
            int repeat = times.length == 1 ? 1 : Integer.parseInt(times[0]);
            for (int i = 0; i < repeat; i++) {
                String got = Calls.answer(x, times[times.length - 1]);
                if (sides.length == 2 && !got.equals(sides[1])) {
                    complain(title, row.trim(), got);
                }
            }
            made += repeat;
        }
        checkLength(title, made);
        return made;
    }

    private void checkLength(String title, int made) {
        if (made > MOST_CALLS) {
            complain(title, "a run of at most " + MOST_CALLS + " calls", made + " calls");
        }
    }

    void complain(String title, String due, String got) {
        wrong++;
        System.out.println(title + ": " + due + " is due, there was " + got);
    }

    void end() {
        System.out.println(wrong == 0 ? "all answers of " + runs + " runs are as due"
                : wrong + " answers are not as due");
        if (wrong != 0) {
            System.exit(1);
        }
    }
}
