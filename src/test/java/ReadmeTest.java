import java.io.IOException;
import java.lang.reflect.InvocationTargetException;
import java.lang.reflect.Method;
import java.lang.reflect.Modifier;
import java.nio.file.Files;
import java.nio.file.Path;
import java.util.Set;
import java.util.TreeSet;
import java.util.regex.Matcher;
import java.util.regex.Pattern;

/** Each call in README.md answers what is said behind it, and each method of the face is shown. */
public final class ReadmeTest extends Cases {
    private static final String NEW_OBJECT = "RegisterMill mill = new RegisterMill();";
    private static final Pattern CALL =
        Pattern.compile("mill\\.(\\w+)\\(([-0-9, ]*)\\);(?:\\s*// (-?\\d+|true|false|throws \\w+): .+)?");
    private static final int FEWEST_CALLS = 60;

    public static void main(String[] args) throws IOException, ReflectiveOperationException {
        RegisterMill mill = new RegisterMill();
        Set<String> shown = new TreeSet<>();
        int calls = 0;
        boolean inside = false;
        for (String line : Files.readAllLines(Path.of("README.md"))) {
            if (line.startsWith("```")) {
                inside = line.equals("```java");
            } else if (inside && line.equals(NEW_OBJECT)) {
                mill = new RegisterMill();
            } else if (inside) {
                calls++;
                shown.add(makeCall(mill, line));
            }
        }
        due("README.md has its calls", calls >= FEWEST_CALLS, true);
        for (Method m : RegisterMill.class.getDeclaredMethods()) {
            if (Modifier.isPublic(m.getModifiers())) {
                due("README.md shows " + m.getName(), shown.contains(m.getName()), true);
            }
        }
        finish("ReadmeTest");
    }

    /** The name of the method that was called. */
    private static String makeCall(RegisterMill mill, String line) throws ReflectiveOperationException {
        Matcher m = CALL.matcher(line);
        boolean formed = m.matches();
        due("README.md has a call with its answer: " + line, formed, true);
        if (!formed) {
            return "";
        }
        String want = m.group(3) == null ? "null" : m.group(3);
        due("README.md: " + line, answer(mill, m.group(1), m.group(2)), want);
        return m.group(1);
    }

    private static String answer(RegisterMill mill, String name, String list)
            throws ReflectiveOperationException {
        String[] texts = list.isEmpty() ? new String[0] : list.split(", ");
        Class<?>[] types = new Class<?>[texts.length];
        Object[] numbers = new Object[texts.length];
        for (int k = 0; k < texts.length; k++) {
            types[k] = int.class;
            numbers[k] = Integer.valueOf(texts[k]);
        }
        try {
            return String.valueOf(RegisterMill.class.getMethod(name, types).invoke(mill, numbers));
        } catch (InvocationTargetException e) {
            return "throws " + e.getCause().getClass().getSimpleName();
        }
    }
}
