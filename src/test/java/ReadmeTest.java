import java.io.IOException;
import java.lang.reflect.Method;
import java.nio.file.Files;
import java.nio.file.Path;
import java.util.HashMap;
import java.util.Map;
import java.util.Set;
import java.util.TreeSet;
import java.util.regex.Matcher;
import java.util.regex.Pattern;

/** README.md tells no wrong answer, and names every call: its example is read and called line by line. */
public final class ReadmeTest {
    private static final Pattern CALL =
        Pattern.compile("(?:int (\\w+) = )?bath\\.(\\w+)\\(([^)]*)\\);\\s*// (-?\\d+):.*");

    private static final Due due = new Due();

    public static void main(String[] args) throws IOException, ReflectiveOperationException {
        String page = Files.readString(Path.of("README.md"));
        exampleAnswersAsTold(page);
        everyCallIsNamed(page);
        due.end("ReadmeTest");
    }

    private static void exampleAnswersAsTold(String page) throws ReflectiveOperationException {
        int start = page.indexOf("```java\n");
        int end = page.indexOf("\n```", start + 1);
        due.holds("an example is there", start >= 0 && end > start);
        String[] lines = page.substring(start, end).split("\n");
        due.holds("it begins with a new object", lines[1].equals("SwimLanes bath = new SwimLanes();"));
        SwimLanes bath = new SwimLanes();
        Map<String, Integer> names = new HashMap<>(Map.of("SwimLanes.NONE", SwimLanes.NONE));
        for (int i = 2; i < lines.length; i++) {
            Matcher m = CALL.matcher(lines[i]);
            due.holds("a call and its answer: " + lines[i], m.matches());
            long told = Long.parseLong(m.group(4));
            due.is(lines[i], called(bath, m.group(2), m.group(3), names), told);
            if (m.group(1) != null) {
                names.put(m.group(1), (int) told);
            }
        }
    }

    private static long called(SwimLanes bath, String name, String inside, Map<String, Integer> names)
            throws ReflectiveOperationException {
        String[] parts = inside.isEmpty() ? new String[0] : inside.split(", ");
        Class<?>[] types = new Class<?>[parts.length];
        Object[] values = new Object[parts.length];
        for (int i = 0; i < parts.length; i++) {
            types[i] = int.class;
            values[i] = names.containsKey(parts[i]) ? names.get(parts[i]) : Integer.valueOf(parts[i]);
        }
        return ((Number) SwimLanes.class.getMethod(name, types).invoke(bath, values)).longValue();
    }

    private static void everyCallIsNamed(String page) {
        Set<String> missing = new TreeSet<>();
        for (Method m : SwimLanes.class.getMethods()) {
            boolean own = m.getDeclaringClass() == SwimLanes.class;
            if (own && !page.contains("`" + m.getName() + "`")) {
                missing.add(m.getName());
            }
        }
        due.holds("calls that the page does not name: " + missing, missing.isEmpty());
    }
}
