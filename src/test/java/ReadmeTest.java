import java.lang.reflect.Method;
import java.nio.file.Files;
import java.nio.file.Path;
import java.util.regex.Matcher;
import java.util.regex.Pattern;

/** The calls in the example of README.md answer what stands behind them there. */
public final class ReadmeTest {
    private static final Pattern CALL =
            Pattern.compile("x\\.(\\w+)\\(([-0-9, ]*)\\);(?:\\s*// (-?\\d+|true|false)\\b)?.*");

    public static void main(String[] args) throws Exception {
        String text = Files.readString(Path.of("README.md"));
        int from = text.indexOf("```java\n");
        String example = text.substring(from + 8, text.indexOf("```", from + 8));
        FactFlow x = new FactFlow();
        int calls = 0;
        for (String line : example.split("\n")) {
            Matcher found = CALL.matcher(line);
            if (found.matches()) {
                call(x, found.group(1), numbers(found.group(2)), found.group(3), line);
                calls++;
            }
        }
        Due.is("calls in the example", calls >= 10, true);
        Due.end();
    }

    private static Object[] numbers(String listed) {
        if (listed.isBlank()) {
            return new Object[0];
        }
        String[] parts = listed.split(",");
        Object[] all = new Object[parts.length];
        for (int k = 0; k < parts.length; k++) {
            all[k] = Integer.valueOf(parts[k].trim());
        }
        return all;
    }

    private static void call(FactFlow x, String name, Object[] given, String due, String line) throws Exception {
        for (Method m : FactFlow.class.getMethods()) {
            if (m.getName().equals(name) && m.getParameterCount() == given.length) {
                String got = String.valueOf(m.invoke(x, given));
                Due.is(line.trim() + " (it is " + got + ")", due == null || due.equals(got), true);
                return;
            }
        }
        Due.is("there is no such call: " + line, false, true);
    }
}
