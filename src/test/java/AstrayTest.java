import java.lang.reflect.Field;

/** No run of calls brings versions astray, so their fields are changed from outside to see that it would be told. */
public final class AstrayTest {
    private static int wrong = 0;

    private static void due(String what, int got, int want) {
        if (got != want) {
            wrong++;
            System.out.println(what + ": astray() answered " + got + ", due is " + want);
        }
    }

    private static Object get(Object of, String field) throws ReflectiveOperationException {
        return opened(of, field).get(of);
    }

    private static Field opened(Object of, String field) throws ReflectiveOperationException {
        Field f = of.getClass().getDeclaredField(field);
        f.setAccessible(true);
        return f;
    }

    /** Key 1 has versions of 1 and 3, key 2 of 1 and 2, key 3 of 3; key 4 was written, but never committed. */
    private static SnapshotStore filled() {
        SnapshotStore x = new SnapshotStore();
        int[][] keys = {{1, 2}, {2}, {1, 3}};
        for (int[] of : keys) {
            int t = x.begin(0);
            for (int key : of) {
                x.write(t, key, 5);
            }
            x.commit(t);
        }
        x.write(x.begin(0), 4, 5);
        return x;
    }

    public static void main(String[] args) throws ReflectiveOperationException {
        SnapshotStore x = filled();
        due("as the calls left it", x.astray(), 0);
        opened(x, "clock").setInt(x, 2);
        due("the clock at 2", x.astray(), 2);
        opened(x, "clock").setInt(x, 0);
        due("the clock at 0", x.astray(), 3);
        opened(x, "clock").setInt(x, 3);
        due("the clock as it was", x.astray(), 0);

        Object newest = get(get(x, "least"), "newest");
        Object older = get(newest, "older");
        opened(older, "stamp").setInt(older, 3);
        due("two versions with the same stamp", x.astray(), 1);
        opened(newest, "stamp").setInt(newest, 2);
        due("two versions that fall by their stamps", x.astray(), 1);

        System.out.println(wrong == 0 ? "what is astray is told" : wrong + " answers are not as due");
        if (wrong != 0) {
            System.exit(1);
        }
    }
}
