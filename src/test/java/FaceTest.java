import java.lang.reflect.Constructor;
import java.lang.reflect.Executable;
import java.lang.reflect.Field;
import java.lang.reflect.Method;
import java.lang.reflect.Modifier;
import java.util.ArrayList;
import java.util.Arrays;
import java.util.Collections;
import java.util.List;

/** The public face: the document's constants, constructor and methods, and no other open member. */
public final class FaceTest {
    private static final String[] FACE = {
        "NONE int",
        "LockTable()",
        "begin(int) int IllegalArgumentException IllegalStateException",
        "table(int,int,int) int IllegalArgumentException IllegalStateException",
        "range(int,int,long,long,int) int IllegalArgumentException IllegalStateException UnsupportedOperationException",
        "escalate(int,int) int IllegalArgumentException IllegalStateException UnsupportedOperationException",
        "cancel(int) int IllegalArgumentException IllegalStateException",
        "prepare(int) int IllegalArgumentException IllegalStateException",
        "unread(int) int IllegalArgumentException IllegalStateException",
        "end(int) int IllegalArgumentException IllegalStateException",
        "limit(int) void IllegalArgumentException",
        "tick(int) int IllegalArgumentException",
        "state(int) int IllegalArgumentException",
        "serial(int) int IllegalArgumentException",
        "ranges(int,int) int IllegalArgumentException",
        "all() int",
        "mode(int,int) int IllegalArgumentException",
        "right(int,int,long) int IllegalArgumentException",
        "queue(int) int",
        "wants(int,int) int IllegalArgumentException IllegalStateException",
        "behind(int) int IllegalArgumentException",
        "granted(int) int",
        "join(int,int) int IllegalArgumentException",
    };

    public static void main(String[] args) {
        Due due = new Due();
        due.same("public and final", LockTable.class.getModifiers(), Modifier.PUBLIC | Modifier.FINAL);
        due.same("NONE", LockTable.NONE, -1);
        List<String> want = new ArrayList<>(Arrays.asList(FACE));
        Collections.sort(want);
        due.text("the face", openMembers().toString(), want.toString());
        due.same("private methods with a public one's name", namesUsedTwice(), 0);
        due.finish();
    }

    private static List<String> openMembers() {
        List<String> found = new ArrayList<>();
        for (Field f : LockTable.class.getDeclaredFields()) {
            if (!Modifier.isPrivate(f.getModifiers())) {
                found.add(f.getName() + " " + f.getType());
            }
        }
        for (Constructor<?> c : LockTable.class.getDeclaredConstructors()) {
            if (!Modifier.isPrivate(c.getModifiers())) {
                found.add("LockTable" + parameters(c) + thrown(c));
            }
        }
        for (Method m : LockTable.class.getDeclaredMethods()) {
            if (!Modifier.isPrivate(m.getModifiers())) {
                found.add(m.getName() + parameters(m) + " " + m.getReturnType() + thrown(m));
            }
        }
        Collections.sort(found);
        return found;
    }

    private static String parameters(Executable e) {
        List<String> names = new ArrayList<>();
        for (Class<?> c : e.getParameterTypes()) {
            names.add(c.getName());
        }
        return "(" + String.join(",", names) + ")";
    }

    private static String thrown(Executable e) {
        StringBuilder b = new StringBuilder();
        for (Class<?> c : e.getExceptionTypes()) {
            b.append(' ').append(c.getSimpleName());
        }
        return b.toString();
    }

    private static int namesUsedTwice() {
        int found = 0;
        for (Method hidden : LockTable.class.getDeclaredMethods()) {
            for (Method open : LockTable.class.getDeclaredMethods()) {
                boolean both = Modifier.isPrivate(hidden.getModifiers()) && Modifier.isPublic(open.getModifiers());
                if (both && hidden.getName().equals(open.getName())) {
                    found++;
                }
            }
        }
        return found;
    }
}
