import java.util.Arrays;

/** Makes a call that is told as a text, such as "read(0, 5)", and tells its answer as a text. */
final class Calls {
    private Calls() {
    }

    static String name(String call) {
        return call.substring(0, call.indexOf('('));
    }

    static long[] arguments(String call) {
        String inside = call.substring(call.indexOf('(') + 1, call.lastIndexOf(')')).trim();
        if (inside.isEmpty()) {
            return new long[0];
        }
        return Arrays.stream(inside.split(",")).mapToLong(a -> number(a.trim())).toArray();
    }

    private static long number(String text) {
        switch (text) {
            case "MIN":
                return Integer.MIN_VALUE;
            case "MAX":
                return Integer.MAX_VALUE;
            case "true":
                return 1;
            case "false":
                return 0;
            default:
                return Long.parseLong(text);
        }
    }

    /** The exact class is told, so that what the machine throws is never taken for what the document names. */
    static String answer(SnapshotStore x, String call) {
        try {
            return String.valueOf(value(x, name(call), arguments(call)));
        } catch (RuntimeException e) {
            return "throws." + e.getClass().getSimpleName();
        }
    }

    private static long value(SnapshotStore x, String name, long[] a) {
        switch (name) {
            case "begin": return x.begin((int) a[0]);
            case "read": return x.read((int) a[0], (int) a[1]);
            case "found": return x.found((int) a[0], (int) a[1]) ? 1 : 0;
            case "write": return x.write((int) a[0], (int) a[1], (int) a[2]);
            case "erase": return x.erase((int) a[0], (int) a[1]);
            case "sum": return x.sum((int) a[0], (int) a[1], (int) a[2]);
            case "key": return x.key((int) a[0], (int) a[1], (int) a[2]);
            case "save": return x.save((int) a[0]);
            case "back": return x.back((int) a[0], (int) a[1]);
            case "commit": return x.commit((int) a[0]);
            case "abort": return x.abort((int) a[0]);
            case "vacuum": return x.vacuum();
            case "flush": return x.flush();
            case "crash": return x.crash();
            case "told": return x.told((int) a[0], (int) a[1]);
            case "at": return x.at((int) a[0], a[1] != 0);
            case "versions": return x.versions((int) a[0]);
            case "count": return x.count((int) a[0]);
            case "astray": return x.astray();
            default: throw new AssertionError("no such call: " + name);
        }
    }
}
