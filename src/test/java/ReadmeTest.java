import java.lang.reflect.Method;
import java.nio.charset.StandardCharsets;
import java.nio.file.Files;
import java.nio.file.Path;
import java.util.ArrayList;
import java.util.List;
import java.util.regex.Matcher;
import java.util.regex.Pattern;

/** The run of calls that README.md shows: each answer that stands behind a call there is the true one. */
public final class ReadmeTest {
    private static final Pattern CALL = Pattern.compile("street\\.(\\w+)\\(([^)]*)\\); +// (-?\\d+)\\b.*");
    private static final int FEWEST = 30;

    public static void main(String[] args) throws Exception {
        Checks checks = new Checks("ReadmeTest");
        SoleGuest street = new SoleGuest();
        int calls = 0;
        for (String line : javaLines()) {
            Matcher call = CALL.matcher(line);
            if (call.matches()) {
                checks.same(line, answer(street, call.group(1), call.group(2)), Long.parseLong(call.group(3)));
                calls++;
            } else {
                checks.isSo("a call with its answer: " + line, line.isBlank() || line.startsWith("//")
                    || line.equals("SoleGuest street = new SoleGuest();"));
            }
        }
        checks.isSo("calls in README.md: " + calls, calls >= FEWEST);
        checks.close();
    }

    private static List<String> javaLines() throws Exception {
        List<String> found = new ArrayList<>();
        boolean inside = false;
        for (String line : Files.readAllLines(Path.of("README.md"), StandardCharsets.UTF_8)) {
            if (line.startsWith("```")) {
                inside = line.equals("```java");
            } else if (inside) {
                found.add(line);
            }
        }
        return found;
    }

    private static long answer(SoleGuest street, String name, String told) throws Exception {
        String[] words = told.isBlank() ? new String[0] : told.split(", ");
        Class<?>[] kinds = new Class<?>[words.length];
        Object[] values = new Object[words.length];
        for (int i = 0; i < words.length; i++) {
            kinds[i] = int.class;
            values[i] = words[i].equals("SoleGuest.NONE") ? SoleGuest.NONE : Integer.decode(words[i]);
        }
        Method method = SoleGuest.class.getMethod(name, kinds);
        return ((Number) method.invoke(street, values)).longValue();
    }
}
