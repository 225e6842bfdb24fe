import java.util.ArrayList;
import java.util.List;

/**
 * Calls that bring to light, each list on an object of its own, all that a store holds. They ask no more of ended
 * transactions than what is told: a call that is refused might itself leave the trace that is looked for.
 */
final class Endings {
    private static final String[] KEYS = {"MIN", "-1", "0", "1", "2", "3", "MAX"};

    // Of very many transactions some stand for all, or an ending would have too many calls.
    private static final int MOST = 12;

    private final int transactions;
    private final List<Integer> open = new ArrayList<>();

    private Endings(SnapshotStore asked) {
        transactions = asked.count(5);
        for (int t = 0; t < transactions; t++) {
            if (isTold(t) && asked.told(t, 0) == 0) {
                open.add(t);
            }
        }
    }

    /** The endings for stores that have come as far as this one, which is used up by asking. */
    static List<List<String>> of(SnapshotStore asked) {
        return new Endings(asked).all();
    }

    private boolean isTold(int t) {
        return t < MOST - 2 || t >= transactions - 1;
    }

    private List<List<String>> all() {
        List<List<String>> all = new ArrayList<>(List.of(told(), seen(), placesTold(), upkeep(), ended(), begun()));
        for (int t : open) {
            for (int place = 0; place < 20; place++) {
                all.add(List.of("back(" + t + ", " + place + ")", "sum(" + t + ", MIN, MAX)", "save(" + t + ")"));
            }
        }
        for (String key : KEYS) {
            all.add(writtenByAnother(key));
            for (int t : open) {
                all.add(List.of("write(" + t + ", " + key + ", 9)", "commit(" + t + ")", "told(" + t + ", 6)"));
            }
        }
        return all;
    }

    private List<String> told() {
        List<String> calls = new ArrayList<>();
        for (int what = 0; what <= 6; what++) {
            calls.add("count(" + what + ")");
            for (int t = 0; t <= transactions; t++) {
                if (isTold(t)) {
                    calls.add("told(" + t + ", " + what + ")");
                }
            }
        }
        calls.addAll(stored());
        return calls;
    }

    private static List<String> stored() {
        List<String> calls = new ArrayList<>();
        for (String key : KEYS) {
            calls.add("at(" + key + ", false)");
            calls.add("at(" + key + ", true)");
            calls.add("versions(" + key + ")");
        }
        calls.add("astray()");
        return calls;
    }

    private List<String> seen() {
        List<String> calls = new ArrayList<>();
        for (int t : open) {
            for (String key : KEYS) {
                calls.add("read(" + t + ", " + key + ")");
                calls.add("found(" + t + ", " + key + ")");
            }
            calls.add("sum(" + t + ", MIN, MAX)");
            calls.add("key(" + t + ", MIN, 0)");
            calls.add("key(" + t + ", MIN, 3)");
        }
        return calls;
    }

    private List<String> placesTold() {
        List<String> calls = new ArrayList<>();
        for (int t : open) {
            calls.add("save(" + t + ")");
            calls.add("told(" + t + ", 5)");
        }
        return calls;
    }

    private List<String> upkeep() {
        List<String> calls = new ArrayList<>();
        for (String call : new String[] {"vacuum()", "crash()", "flush()", "vacuum()"}) {
            calls.add(call);
            calls.add("count(1)");
            calls.addAll(stored());
        }
        for (int t : open) {
            calls.add("told(" + t + ", 0)");
        }
        return calls;
    }

    private List<String> ended() {
        List<String> calls = new ArrayList<>();
        for (int t : open) {
            calls.add("commit(" + t + ")");
            calls.add("told(" + t + ", 6)");
        }
        calls.addAll(stored());
        return calls;
    }

    private List<String> begun() {
        List<String> calls = new ArrayList<>(List.of("flush()", "begin(0)", "begin(1)"));
        for (int t : open) {
            calls.add("write(" + t + ", 1, 9)");
            calls.add("abort(" + t + ")");
        }
        return calls;
    }

    /** Whether a serial one has read a key comes to light only once another serial one has written it. */
    private List<String> writtenByAnother(String key) {
        List<String> calls = new ArrayList<>();
        calls.add("begin(1)");
        calls.add("write(" + transactions + ", " + key + ", 9)");
        calls.add("commit(" + transactions + ")");
        calls.addAll(ended());
        return calls;
    }
}
