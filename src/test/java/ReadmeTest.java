import java.io.IOException;
import java.lang.reflect.Method;
import java.lang.reflect.Modifier;
import java.nio.file.Files;
import java.nio.file.Path;
import java.util.HashMap;
import java.util.Map;
import java.util.regex.Matcher;
import java.util.regex.Pattern;

/** README.md tells how to use the class: its calls are made, and each of its tables' calls is one of the class. */
final class ReadmeTest {
    private static final Check CHECK = new Check();
    private static final Map<String, Method> CALLS = new HashMap<>();

    public static void main(String[] args) throws IOException, ReflectiveOperationException {
        for (Method m : QuarterMasks.class.getDeclaredMethods()) {
            if (Modifier.isPublic(m.getModifiers())) CALLS.put(m.getName(), m);
        }
        String page = Files.readString(Path.of("README.md"));
        Matcher examples = Pattern.compile("(?s)```java\n(.*?)```").matcher(page);
        int found = 0;
        for (; examples.find(); found++) example(examples.group(1));
        CHECK.holds("README.md has two examples", found == 2);
        tables(page);
        for (String name : new String[] {".ci/run", "src/test/java", "../shared/tests"}) {
            CHECK.holds("README.md tells of " + name, page.contains(name));
        }
        CHECK.end("ReadmeTest");
    }

    /** A line makes a new object, or a call, with the answer behind it. */
    private static void example(String text) throws ReflectiveOperationException {
        QuarterMasks q = null;
        for (String line : text.split("\n")) {
            if (line.equals("QuarterMasks q = new QuarterMasks();")) {
                q = new QuarterMasks();
                continue;
            }
            Matcher call = Pattern.compile("q\\.(\\w+)\\(([-0-9, ]*)\\); +// (-?\\d+): .*").matcher(line);
            boolean read = call.matches() && CALLS.containsKey(call.group(1));
            CHECK.holds("an example's line, " + line, read);
            if (!read) continue;
            String[] words = call.group(2).isEmpty() ? new String[0] : call.group(2).split(", ");
            Object[] numbers = new Object[words.length];
            for (int i = 0; i < words.length; i++) numbers[i] = Integer.valueOf(words[i]);
            Number got = (Number) CALLS.get(call.group(1)).invoke(q, numbers);
            CHECK.due("README.md: " + line, got.longValue(), Long.parseLong(call.group(3)));
        }
    }

    /** Every call of the class has its row, with as many numbers as it takes. */
    private static void tables(String page) {
        Map<String, Integer> rows = new HashMap<>();
        Matcher row = Pattern.compile("(?m)^\\| `(\\w+)\\((.*?)\\)` \\|").matcher(page);
        while (row.find()) rows.put(row.group(1), row.group(2).isEmpty() ? 0 : row.group(2).split(", ").length);
        CHECK.due("rows of README.md", rows.size(), CALLS.size());
        CALLS.forEach((name, m) -> CHECK.due("numbers of " + name, rows.getOrDefault(name, -1), m.getParameterCount()));
    }
}
