import java.util.ArrayList;
import java.util.List;

/** Calls that bring to light, each list on an object of its own, all that a store with so many transactions holds. */
final class Endings {
    private static final String[] KEYS = {"MIN", "-1", "0", "1", "2", "3", "MAX"};
    private static final int MOST_TOLD = 10;

    private Endings() {
    }

    static List<List<String>> of(int transactions) {
        List<Integer> numbers = new ArrayList<>();
        for (int t = 0; t <= transactions; t++) {
            // Of very many the first and the last ones stand for all, or the ending would have too many calls.
            if (t < MOST_TOLD - 2 || t >= transactions - 1) {
                numbers.add(t);
            }
        }
        List<List<String>> all = new ArrayList<>();
        all.add(told(numbers));
        all.add(seen(numbers));
        all.add(places(numbers));
        all.add(upkeep(numbers));
        all.add(ended(numbers));
        all.add(begun(numbers));
        for (String key : KEYS) {
            all.add(writtenByAnother(numbers, transactions, key));
        }
        return all;
    }

    private static List<String> told(List<Integer> numbers) {
        List<String> calls = new ArrayList<>();
        for (int what = 0; what <= 6; what++) {
            calls.add("count(" + what + ")");
            for (int t : numbers) {
                calls.add("told(" + t + ", " + what + ")");
            }
        }
        calls.addAll(stored());
        return calls;
    }

    private static List<String> stored() {
        List<String> calls = new ArrayList<>();
        for (String key : KEYS) {
            calls.add("at(" + key + ", false)");
            calls.add("at(" + key + ", true)");
            calls.add("versions(" + key + ")");
        }
        calls.add("astray()");
        return calls;
    }

    private static List<String> seen(List<Integer> numbers) {
        List<String> calls = new ArrayList<>();
        for (int t : numbers) {
            for (String key : KEYS) {
                calls.add("read(" + t + ", " + key + ")");
                calls.add("found(" + t + ", " + key + ")");
            }
            calls.add("sum(" + t + ", MIN, MAX)");
            calls.add("key(" + t + ", MIN, 0)");
            calls.add("key(" + t + ", MIN, 3)");
        }
        return calls;
    }

    private static List<String> places(List<Integer> numbers) {
        List<String> calls = new ArrayList<>();
        for (int t : numbers) {
            calls.add("save(" + t + ")");
            for (int place = 20; place >= 0; place--) {
                calls.add("back(" + t + ", " + place + ")");
            }
            calls.add("sum(" + t + ", MIN, MAX)");
        }
        return calls;
    }

    private static List<String> upkeep(List<Integer> numbers) {
        List<String> calls = new ArrayList<>();
        for (String call : new String[] {"vacuum()", "crash()", "flush()", "vacuum()"}) {
            calls.add(call);
            calls.add("count(1)");
            calls.addAll(stored());
        }
        for (int t : numbers) {
            calls.add("told(" + t + ", 0)");
        }
        return calls;
    }

    private static List<String> ended(List<Integer> numbers) {
        List<String> calls = new ArrayList<>();
        for (int t : numbers) {
            calls.add("commit(" + t + ")");
            calls.add("told(" + t + ", 6)");
        }
        calls.addAll(stored());
        return calls;
    }

    private static List<String> begun(List<Integer> numbers) {
        List<String> calls = new ArrayList<>(List.of("flush()", "begin(0)", "begin(1)"));
        for (int t : numbers) {
            calls.add("write(" + t + ", 1, 9)");
            calls.add("abort(" + t + ")");
        }
        return calls;
    }

    /** Whether a serial one has read a key comes to light only once another serial one has written it. */
    private static List<String> writtenByAnother(List<Integer> numbers, int another, String key) {
        List<String> calls = new ArrayList<>();
        calls.add("begin(1)");
        calls.add("write(" + another + ", " + key + ", 9)");
        calls.add("commit(" + another + ")");
        calls.addAll(ended(numbers));
        return calls;
    }
}
