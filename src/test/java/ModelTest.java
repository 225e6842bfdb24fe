import java.util.Random;

/** Long runs of calls from fixed seeds, each answer held against the model's. */
public final class ModelTest {
    private static final int RUNS = 2400;
    private static final int CALLS = 512;
    private static final int[] EDGES = {
        Integer.MIN_VALUE, Integer.MIN_VALUE + 1, -1, 0, 1, Integer.MAX_VALUE - 1, Integer.MAX_VALUE};

    private final Random random;
    private final int keys;
    private final int serial;
    private final int upkeep;
    private int begun;

    private ModelTest(int seed) {
        random = new Random(seed);
        keys = new int[] {3, 8, 30, 200}[seed % 4];
        serial = new int[] {10, 50, 100}[seed % 3];
        upkeep = new int[] {1, 4, 12}[seed % 5 % 3];
    }

    private int key() {
        return random.nextInt(12) == 0 ? EDGES[random.nextInt(EDGES.length)] : random.nextInt(keys) - keys / 3;
    }

    private int value() {
        return random.nextInt(6) == 0 ? EDGES[random.nextInt(EDGES.length)] : random.nextInt(100) - 30;
    }

    /** Most often one of the newest, which are likely to be open. */
    private int transaction() {
        int kind = random.nextInt(40);
        if (kind == 0) {
            return new int[] {-1, begun, begun + 1, 120, Integer.MIN_VALUE, Integer.MAX_VALUE}[random.nextInt(6)];
        }
        if (kind < 4) {
            return random.nextInt(begun + 1);
        }
        return Math.max(0, begun - 1 - random.nextInt(5));
    }

    private String call() {
        int kind = random.nextInt(100);
        if (kind < upkeep) {
            return new String[] {"vacuum()", "flush()", "crash()", "vacuum()"}[random.nextInt(4)];
        }
        if (kind < 25) {
            return "begin(" + (random.nextInt(30) == 0 ? random.nextInt(9) - 4 : random.nextInt(100) < serial ? 1 : 0) + ")";
        }
        if (kind < 60) {
            return ofKey();
        }
        if (kind < 75) {
            return (random.nextInt(5) == 0 ? "abort(" : "commit(") + transaction() + ")";
        }
        if (kind < 82) {
            return random.nextBoolean() ? "save(" + transaction() + ")"
                    : "back(" + transaction() + ", " + (random.nextInt(4) - 1) + ")";
        }
        switch (random.nextInt(5)) {
            case 0: return "told(" + transaction() + ", " + (random.nextInt(9) - 1) + ")";
            case 1: return "at(" + key() + ", " + random.nextBoolean() + ")";
            case 2: return "versions(" + key() + ")";
            case 3: return "count(" + (random.nextInt(9) - 1) + ")";
            default: return "astray()";
        }
    }

    private String ofKey() {
        switch (random.nextInt(8)) {
            case 0: return "read(" + transaction() + ", " + key() + ")";
            case 1: return "found(" + transaction() + ", " + key() + ")";
            case 2: return "sum(" + transaction() + ", " + key() + ", " + key() + ")";
            case 3: return "key(" + transaction() + ", " + key() + ", " + (random.nextInt(6) - 1) + ")";
            case 4: return "erase(" + transaction() + ", " + key() + ")";
            default: return "write(" + transaction() + ", " + key() + ", " + value() + ")";
        }
    }

    private boolean agrees(int seed) {
        SnapshotStore store = new SnapshotStore();
        Model model = new Model();
        StringBuilder run = new StringBuilder();
        for (int i = 0; i < CALLS; i++) {
            String call = call();
            String due = model.answer(call);
            String got = Calls.answer(store, call);
            run.append(call).append(" = ").append(got).append('\n');
            if (!got.equals(due)) {
                System.out.println("seed " + seed + ", call " + (i + 1) + ", due is " + due + ":\n" + run);
                return false;
            }
            if (call.startsWith("begin") && !got.startsWith("throws")) {
                begun++;
            }
        }
        return true;
    }

    public static void main(String[] args) {
        for (int seed = 0; seed < RUNS; seed++) {
            if (!new ModelTest(seed).agrees(seed)) {
                System.exit(1);
            }
        }
        System.out.println(RUNS + " runs agree with the model");
    }
}
