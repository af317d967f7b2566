import java.io.IOException;
import java.lang.reflect.InvocationTargetException;
import java.lang.reflect.Method;
import java.nio.file.Files;
import java.nio.file.Path;
import java.util.regex.Matcher;
import java.util.regex.Pattern;

/** The calls that README.md shows answer what it says behind them. */
public final class ReadmeTest {
    /** A call, and its answer or the exception that it throws. */
    private static final Pattern CALL =
        Pattern.compile("x\\.(\\w+)\\(([^)]*)\\);\\s*// (?:(-?\\d+)(?::.*)?|throws (\\w+))");

    public static void main(String[] args) throws IOException {
        TuneSearch x = new TuneSearch();
        int calls = 0;
        int lines = 0;
        for (String line : Files.readAllLines(Path.of("README.md"))) {
            Matcher call = CALL.matcher(line);
            if (line.startsWith("x.")) {
                lines++;
            }
            if (call.matches()) {
                calls++;
                String due = call.group(3) != null ? call.group(3) : "throws." + call.group(4);
                Check.due(line, answer(x, call.group(1), call.group(2)), due);
            }
        }
        Check.due("README.md shows calls", calls > 0 ? 1 : 0, 1);
        Check.due("calls of README.md that tell their answers", calls, lines);
        Check.end();
    }

    private static String answer(TuneSearch x, String name, String written) {
        for (Method m : TuneSearch.class.getMethods()) {
            if (m.getName().equals(name) && m.getDeclaringClass() == TuneSearch.class) {
                return outcome(x, m, written);
            }
        }
        return "no such call";
    }

    private static String outcome(TuneSearch x, Method m, String written) {
        try {
            return m.invoke(x, arguments(m, written)).toString();
        } catch (InvocationTargetException e) {
            return "throws." + e.getCause().getClass().getSimpleName();
        } catch (IllegalAccessException | IllegalArgumentException e) {
            return "not called: " + e;
        }
    }

    private static Object[] arguments(Method m, String written) {
        Class<?>[] types = m.getParameterTypes();
        String[] texts = written.isEmpty() ? new String[0] : written.split(", ");
        Object[] values = new Object[texts.length];
        for (int k = 0; k < texts.length; k++) {
            long value = Long.decode(texts[k].replace("L", ""));
            if (k < types.length && types[k] == long.class) {
                values[k] = value;
            } else {
                values[k] = (int) value;
            }
        }
        return values;
    }
}
