import java.lang.reflect.Method;
import java.nio.file.Files;
import java.nio.file.Path;
import java.util.regex.Matcher;
import java.util.regex.Pattern;

/** Each call that README.md shows is asked, and must answer what stands behind it there. */
public final class ReadmeTest {
    private static final Pattern CALL =
            Pattern.compile("x\\.(\\w+)\\(([^)]*)\\);\\s*// (-?\\d+|true|false)\\b.*");

    public static void main(String[] args) throws Exception {
        DrillField x = null;
        int calls = 0;
        for (String line : Files.readAllLines(Path.of("README.md"))) {
            if (line.startsWith("DrillField x = new")) {
                x = new DrillField();
            } else if (line.startsWith("x.")) {
                ask(x, line);
                calls++;
            }
        }
        Due.yes("README.md shows calls", calls > 40);
        Due.end("ReadmeTest");
    }

    private static void ask(DrillField x, String line) throws Exception {
        Matcher found = CALL.matcher(line);
        if (!found.matches()) {
            Due.yes(line + ": says what it answers", false);
            return;
        }
        String answer = String.valueOf(call(x, found.group(1), found.group(2)));
        Due.yes(line + ": answered " + answer, answer.equals(found.group(3)));
    }

    private static Object call(DrillField x, String name, String arguments) throws Exception {
        String[] words = arguments.isEmpty() ? new String[0] : arguments.split(", ");
        for (Method method : DrillField.class.getMethods()) {
            if (method.getName().equals(name) && method.getParameterCount() == words.length) {
                Object[] values = new Object[words.length];
                for (int i = 0; i < words.length; i++) {
                    long value = Long.decode(words[i]);
                    if (method.getParameterTypes()[i] == long.class) {
                        values[i] = value;
                    } else {
                        values[i] = (int) value;
                    }
                }
                return method.invoke(x, values);
            }
        }
        return "nothing: there is no such call";
    }
}
