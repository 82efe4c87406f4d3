import java.io.IOException;
import java.lang.reflect.Method;
import java.nio.file.Files;
import java.nio.file.Path;
import java.util.HashMap;
import java.util.Map;
import java.util.regex.Matcher;
import java.util.regex.Pattern;

/** Every example of README.md answers what stands behind it. */
public final class ReadmeTest {
    private static final Pattern EXAMPLE = Pattern.compile("charts\\.(\\w+)\\((.*)\\);\\s+// (-?\\d+)(:.*)?");

    public static void main(String[] args) throws IOException, ReflectiveOperationException {
        Map<String, Method> calls = new HashMap<>();
        for (Method m : ShiftCharts.class.getMethods()) {
            if (m.getDeclaringClass() == ShiftCharts.class) calls.put(m.getName(), m);
        }
        ShiftCharts charts = new ShiftCharts();
        int examples = 0;
        int wrong = 0;
        for (String line : Files.readAllLines(Path.of("README.md"))) {
            if (!line.startsWith("charts.")) continue;
            examples++;
            if (isSo(charts, calls, line)) continue;
            wrong++;
        }
        System.out.println(examples + " examples, " + wrong + " of them not as told");
        // Fewer would mean that the examples are no longer found.
        if (wrong != 0 || examples < 50) System.exit(1);
    }

    private static boolean isSo(ShiftCharts charts, Map<String, Method> calls, String line)
            throws ReflectiveOperationException {
        Matcher m = EXAMPLE.matcher(line);
        if (!m.matches() || !calls.containsKey(m.group(1))) {
            System.out.println("no example: " + line);
            return false;
        }
        long got = answer(charts, calls.get(m.group(1)), m.group(2));
        if (got == Long.parseLong(m.group(3))) return true;
        System.out.println("answers " + got + ": " + line);
        return false;
    }

    private static long answer(ShiftCharts charts, Method call, String told) throws ReflectiveOperationException {
        String[] words = told.isEmpty() ? new String[0] : told.split(", ");
        Class<?>[] types = call.getParameterTypes();
        Object[] with = new Object[words.length];
        for (int i = 0; i < words.length; i++) {
            int number = words[i].startsWith("'") ? words[i].charAt(1) : Integer.parseInt(words[i]);
            boolean isLong = i < types.length && types[i] == long.class;
            if (isLong) with[i] = (long) number;
            else with[i] = number;
        }
        return ((Number) call.invoke(charts, with)).longValue();
    }
}
