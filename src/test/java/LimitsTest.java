import java.util.Set;

/** The longest runs that are promised, and that the machine itself throws in none behind them either. */
public final class LimitsTest {
    private static final Set<String> NAMED = Set.of(
            "throws.IndexOutOfBoundsException", "throws.IllegalStateException", "throws.IllegalArgumentException");
    private static int wrong = 0;

    private static void due(String what, Object got, Object want) {
        if (!got.equals(want)) {
            wrong++;
            System.out.println(what + " answered " + got + ", due is " + want);
        }
    }

    /** With begin and commit 512 calls: each of the others writes a key of its own. */
    private static void oneTransactionWritesAll() {
        SnapshotStore x = new SnapshotStore();
        x.begin(1);
        for (int i = 1; i <= 510; i++) {
            due("write " + i, x.write(0, i * -7919, i), i);
        }
        due("commit", x.commit(0), 1);
    }

    /** With begin and the last sum 512 calls: each of the others reads. */
    private static void oneTransactionReadsAll() {
        SnapshotStore x = new SnapshotStore();
        x.begin(1);
        for (int i = 1; i <= 510; i++) {
            due("key " + i, x.key(0, i, 0), SnapshotStore.NO_KEY);
        }
        due("sum", x.sum(0, Integer.MIN_VALUE, Integer.MAX_VALUE), 0L);
    }

    private static void wayBackAgainAndAgain() {
        SnapshotStore x = new SnapshotStore();
        x.begin(0);
        x.save(0);
        for (int i = 1; i <= 170; i++) {
            due("write " + i, x.write(0, i, i), 1);
            due("save " + i, x.save(0), 1);
            due("back " + i, x.back(0, 0), 0);
        }
    }

    private static void callsBehindTheLast() {
        String[] calls = {
            "begin(1)", "write(%d, %d, 1)", "read(%d, %d)", "sum(%d, 0, %d)", "save(%d)", "key(%d, 0, %d)",
            "found(%d, %d)", "erase(%d, %d)", "back(%d, 0)", "vacuum()", "told(%d, 4)", "commit(%d)", "flush()",
            "abort(%d)", "count(2)", "versions(%d)", "at(%d, true)", "astray()", "crash()"};
        SnapshotStore x = new SnapshotStore();
        for (int i = 0; i < 40000; i++) {
            String call = String.format(calls[i % (i < 20000 ? 9 : calls.length)], i / 170, i);
            String got = Calls.answer(x, call);
            if (got.startsWith("throws") && !NAMED.contains(got)) {
                due("call " + i + ", " + call, got, "an exception of the document");
            }
        }
        due("astray", x.astray(), 0);
    }

    public static void main(String[] args) {
        oneTransactionWritesAll();
        oneTransactionReadsAll();
        wayBackAgainAndAgain();
        callsBehindTheLast();
        System.out.println(wrong == 0 ? "the limits hold" : wrong + " answers are not as due");
        if (wrong != 0) {
            System.exit(1);
        }
    }
}
