import java.io.IOException;
import java.lang.reflect.Method;
import java.lang.reflect.Modifier;
import java.nio.file.Files;
import java.nio.file.Path;
import java.util.HashMap;
import java.util.List;
import java.util.Map;
import java.util.regex.Matcher;
import java.util.regex.Pattern;

/** README.md: its example's calls answer what stands behind them, and its table tells every call. */
public final class ReadmeTest {
    private static final Report REPORT = new Report();
    private static final String NEW = "SlideRow row = new SlideRow();";
    private static final Pattern CALL =
        Pattern.compile("(?:int (\\w+) = )?row\\.(\\w+)\\(([^)]*)\\); +// (-?\\d+)(?:: .*)?");

    private final SlideRow row = new SlideRow();
    private final Map<String, Integer> variables = new HashMap<>();

    public static void main(String[] args) throws IOException, ReflectiveOperationException {
        List<String> lines = Files.readAllLines(Path.of("README.md"));
        runExample(lines);
        for (Method m : SlideRow.class.getDeclaredMethods()) {
            if (Modifier.isPublic(m.getModifiers()) && !hasTableRow(lines, m)) {
                REPORT.fault("no row of the table tells " + m);
            }
        }
        REPORT.end();
    }

    private static void runExample(List<String> lines) throws ReflectiveOperationException {
        int begin = lines.indexOf(NEW);
        if (begin < 0) {
            REPORT.fault("no example begins with " + NEW);
            return;
        }
        ReadmeTest example = new ReadmeTest();
        int calls = 0;
        for (int i = begin + 1; i < lines.size() && !lines.get(i).equals("```"); i++) {
            example.runLine(lines.get(i));
            calls++;
        }
        if (calls == 0) {
            REPORT.fault("the example has no calls");
        }
    }

    private void runLine(String line) throws ReflectiveOperationException {
        Matcher parts = CALL.matcher(line);
        if (!parts.matches()) {
            REPORT.fault("not a call with its answer behind it: " + line);
            return;
        }
        int got = call(parts.group(2), parts.group(3));
        REPORT.due(line, got, Integer.parseInt(parts.group(4)));
        if (parts.group(1) != null) {
            variables.put(parts.group(1), got);
        }
    }

    private int call(String name, String arguments) throws ReflectiveOperationException {
        String[] texts = arguments.isEmpty() ? new String[0] : arguments.split(", ");
        Class<?>[] types = new Class<?>[texts.length];
        Object[] values = new Object[texts.length];
        for (int i = 0; i < texts.length; i++) {
            types[i] = int.class;
            values[i] = variables.containsKey(texts[i]) ? variables.get(texts[i]) : Integer.valueOf(texts[i]);
        }
        return (Integer) SlideRow.class.getMethod(name, types).invoke(row, values);
    }

    private static boolean hasTableRow(List<String> lines, Method method) {
        for (String line : lines) {
            if (line.startsWith("| `" + method.getName() + "(")) {
                return true;
            }
        }
        return false;
    }
}
