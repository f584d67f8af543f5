import java.io.IOException;
import java.lang.reflect.Method;
import java.lang.reflect.Modifier;
import java.nio.file.Files;
import java.nio.file.Path;
import java.util.Set;
import java.util.TreeSet;
import java.util.regex.Matcher;
import java.util.regex.Pattern;

/** README.md's examples answer what it says, and between them show every call. */
public final class ReadmeTest {
    private static final Checks T = new Checks();
    private static final String NEW_OBJECT = "ColdRows rows = new ColdRows();";
    private static final Pattern CALL = Pattern.compile("rows\\.(\\w+)\\(([^)]*)\\);\\s*// (-?\\d+)(:.*)?");

    public static void main(String[] args) throws IOException, ReflectiveOperationException {
        T.part("README.md");
        Set<String> unseen = new TreeSet<>();
        for (Method m : ColdRows.class.getDeclaredMethods()) {
            if (Modifier.isPublic(m.getModifiers())) {
                unseen.add(m.getName());
            }
        }
        ColdRows rows = null;
        boolean isJava = false;
        for (String line : Files.readAllLines(Path.of("README.md"))) {
            if (line.startsWith("```")) {
                isJava = line.equals("```java");
            } else if (isJava && line.equals(NEW_OBJECT)) {
                rows = new ColdRows();
            } else if (isJava) {
                Matcher call = CALL.matcher(line);
                boolean asTold = call.matches();
                T.isTrue("'" + line + "' is a call with its answer", asTold);
                if (asTold) {
                    unseen.remove(call.group(1));
                    T.due(line, answer(rows, call.group(1), call.group(2)), Long.parseLong(call.group(3)));
                }
            }
        }
        T.isTrue("every call is shown, not all but " + unseen, unseen.isEmpty());
        T.end();
    }

    private static int answer(ColdRows rows, String name, String words) throws ReflectiveOperationException {
        for (Method m : ColdRows.class.getDeclaredMethods()) {
            if (m.getName().equals(name)) {
                return (int) m.invoke(rows, values(m.getParameterTypes(), words));
            }
        }
        throw new NoSuchMethodException(name);
    }

    private static Object[] values(Class<?>[] types, String words) {
        Object[] values = new Object[types.length];
        String[] parts = words.split(", ");
        for (int i = 0; i < types.length; i++) {
            values[i] = value(types[i], parts[i]);
        }
        return values;
    }

    private static Object value(Class<?> type, String word) {
        if (type == boolean.class) {
            return Boolean.valueOf(word);
        }
        if (type == long.class) {
            return Long.valueOf(word);
        }
        return word.equals("ColdRows.NONE") ? Integer.valueOf(ColdRows.NONE) : Integer.valueOf(word);
    }
}
