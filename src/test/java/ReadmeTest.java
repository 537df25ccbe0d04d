import java.io.IOException;
import java.lang.reflect.InvocationTargetException;
import java.lang.reflect.Method;
import java.lang.reflect.Modifier;
import java.nio.file.Files;
import java.nio.file.Path;
import java.util.List;
import java.util.regex.Matcher;
import java.util.regex.Pattern;

/**
 * README.md tells the truth: each run of calls in it gives the answers written behind the calls, and its tables name
 * every call of the face (promises 1 to 22) with its parameters and exceptions. Run from the project's directory.
 */
public final class ReadmeTest {
    private static final Due DUE = new Due();
    private static final String NEW_OBJECT = "LockTable t = new LockTable();";
    /** A call, and behind it: an answer, an exception, or that there is no answer. */
    private static final Pattern CALL =
        Pattern.compile("t\\.(\\w+)\\(([^)]*)\\); +// (-?\\d+|throws \\w+|nothing)(: .*)?");
    private static final Pattern ROW = Pattern.compile("\\| `(\\w+)\\(([^)]*)\\)` \\|.*\\|([^|]*)\\|");
    private static final String[][] SHORT_NAMES = {
        {"IAE", "IllegalArgumentException"},
        {"ISE", "IllegalStateException"},
        {"UOE", "UnsupportedOperationException"},
    };

    public static void main(String[] args) throws IOException {
        List<String> lines = Files.readAllLines(Path.of("README.md"));
        runsGiveTheirAnswers(lines);
        tablesNameTheFace(lines);
        DUE.finish();
    }

    private static void runsGiveTheirAnswers(List<String> lines) {
        LockTable t = null;
        boolean inRun = false;
        int calls = 0;
        for (int i = 0; i < lines.size(); i++) {
            String line = lines.get(i);
            DUE.about("README.md line " + (i + 1));
            if (line.startsWith("```")) {
                inRun = line.equals("```java");
            } else if (inRun && line.equals(NEW_OBJECT)) {
                t = new LockTable();
            } else if (inRun) {
                calls += callGivesItsAnswer(t, line);
            }
        }
        DUE.about("README.md");
        DUE.same("there are runs of calls", calls > 40 ? 1 : 0, 1);
    }

    private static int callGivesItsAnswer(LockTable t, String line) {
        Matcher call = CALL.matcher(line);
        if (!call.matches()) {
            DUE.text("a line of a run", line, "a call with its answer");
            return 0;
        }
        DUE.text(line, answer(t, method(call.group(1)), call.group(2)), call.group(3));
        return 1;
    }

    private static String answer(LockTable t, Method method, String written) {
        if (method == null) {
            return "no call of the face";
        }
        try {
            Object given = method.invoke(t, arguments(method, written));
            return given == null ? "nothing" : given.toString();
        } catch (InvocationTargetException e) {
            return "throws " + e.getCause().getClass().getSimpleName();
        } catch (IllegalAccessException e) {
            return "not open";
        }
    }

    private static Object[] arguments(Method method, String written) {
        String[] texts = parts(written);
        Object[] values = new Object[texts.length];
        for (int i = 0; i < texts.length; i++) {
            boolean isLong = method.getParameterTypes()[i] == long.class;
            if (isLong) {
                values[i] = Long.valueOf(texts[i].replace("L", ""));
            } else {
                values[i] = Integer.valueOf(texts[i]);
            }
        }
        return values;
    }

    private static void tablesNameTheFace(List<String> lines) {
        DUE.about("README.md, All calls");
        for (Method method : LockTable.class.getDeclaredMethods()) {
            if (Modifier.isPublic(method.getModifiers())) {
                DUE.text(method.getName() + " in the tables", rowsOf(method, lines), rowDue(method));
            }
        }
    }

    /** The parameters' number and the exceptions of each row that is of this method. */
    private static String rowsOf(Method method, List<String> lines) {
        StringBuilder found = new StringBuilder();
        for (String line : lines) {
            Matcher row = ROW.matcher(line);
            if (row.matches() && row.group(1).equals(method.getName())) {
                found.append(parts(row.group(2)).length);
                for (String[] names : SHORT_NAMES) {
                    found.append(row.group(3).contains(names[0] + " ") ? " " + names[1] : "");
                }
                found.append(';');
            }
        }
        return found.toString();
    }

    private static String rowDue(Method method) {
        StringBuilder due = new StringBuilder();
        due.append(method.getParameterCount());
        for (Class<?> thrown : method.getExceptionTypes()) {
            due.append(' ').append(thrown.getSimpleName());
        }
        return due.append(';').toString();
    }

    private static String[] parts(String written) {
        return written.isEmpty() ? new String[0] : written.split(", ");
    }

    private static Method method(String name) {
        for (Method method : LockTable.class.getDeclaredMethods()) {
            if (Modifier.isPublic(method.getModifiers()) && method.getName().equals(name)) {
                return method;
            }
        }
        return null;
    }
}
