import java.lang.reflect.Constructor;
import java.lang.reflect.Field;
import java.lang.reflect.Method;
import java.lang.reflect.Modifier;
import java.util.Arrays;
import java.util.Set;
import java.util.TreeSet;
import java.util.stream.Collectors;

/** Holds the heads of the class against those of the document's public face. */
public final class FaceTest {
    private static final String OUT = "IndexOutOfBoundsException", STATE = "IllegalStateException",
            ARGUMENT = "IllegalArgumentException";
    private static int wrong = 0;

    private static void due(String what, Object got, Object want) {
        if (!got.equals(want)) {
            wrong++;
            System.out.println(what + ":\n got  " + got + "\n want " + want);
        }
    }

    private static String names(Class<?>[] types) {
        return Arrays.stream(types).map(Class::getSimpleName).collect(Collectors.joining(","));
    }

    private static String head(Method m) {
        return m.getReturnType() + " " + m.getName() + "(" + names(m.getParameterTypes()) + ")"
                + names(m.getExceptionTypes());
    }

    private static Set<String> face() {
        String both = OUT + "," + STATE;
        return new TreeSet<>(Set.of(
                "int begin(int)" + ARGUMENT + "," + STATE,
                "int read(int,int)" + both,
                "boolean found(int,int)" + both,
                "int write(int,int,int)" + both,
                "int erase(int,int)" + both,
                "long sum(int,int,int)" + both,
                "long key(int,int,int)" + both + "," + ARGUMENT,
                "int save(int)" + both,
                "int back(int,int)" + both + "," + ARGUMENT,
                "int commit(int)" + both,
                "int abort(int)" + both,
                "int vacuum()", "int flush()", "int crash()",
                "int told(int,int)" + OUT + "," + ARGUMENT,
                "int at(int,boolean)", "int versions(int)", "int count(int)", "int astray()"));
    }

    private static void members() {
        Set<String> heads = new TreeSet<>();
        Set<String> publicNames = new TreeSet<>();
        Set<String> hidden = new TreeSet<>();
        for (Method m : SnapshotStore.class.getDeclaredMethods()) {
            if (Modifier.isPublic(m.getModifiers())) {
                heads.add(head(m));
                publicNames.add(m.getName());
            } else {
                due(m + " is private", Modifier.isPrivate(m.getModifiers()), true);
                hidden.add(m.getName());
            }
        }
        due("the public methods", heads, face());
        hidden.retainAll(publicNames);
        due("private methods with public names", hidden, Set.of());
        for (Constructor<?> c : SnapshotStore.class.getDeclaredConstructors()) {
            due("the constructor", c.toString(), "public SnapshotStore()");
        }
    }

    private static void fields() {
        Set<String> open = new TreeSet<>();
        for (Field f : SnapshotStore.class.getDeclaredFields()) {
            if (Modifier.isPublic(f.getModifiers())) {
                open.add(f.toString());
            } else {
                due(f + " is private", Modifier.isPrivate(f.getModifiers()), true);
            }
        }
        due("the constants", open, new TreeSet<>(Set.of(
                "public static final int SnapshotStore.NONE",
                "public static final int SnapshotStore.CONFLICT",
                "public static final int SnapshotStore.UNSAFE",
                "public static final long SnapshotStore.NO_KEY")));
        due("NONE", SnapshotStore.NONE, -1);
        due("CONFLICT", SnapshotStore.CONFLICT, -1);
        due("UNSAFE", SnapshotStore.UNSAFE, -2);
        due("NO_KEY", SnapshotStore.NO_KEY, 4294967296L);
    }

    public static void main(String[] args) {
        due("public and final", SnapshotStore.class.getModifiers(), Modifier.PUBLIC | Modifier.FINAL);
        members();
        fields();
        System.out.println(wrong == 0 ? "the face is the document's" : wrong + " parts of the face are not as due");
        if (wrong != 0) {
            System.exit(1);
        }
    }
}
