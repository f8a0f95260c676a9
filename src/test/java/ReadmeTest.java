import java.io.IOException;
import java.lang.reflect.Method;
import java.lang.reflect.Modifier;
import java.nio.file.Files;
import java.nio.file.Path;
import java.util.Arrays;
import java.util.HashMap;
import java.util.Map;
import java.util.regex.Matcher;
import java.util.regex.Pattern;

/**
 * The example in README.md answers what stands behind its calls, and its table has every call.
 * Run from the project's folder.
 */
public final class ReadmeTest {
    private static final Pattern EXAMPLE = Pattern.compile("```java\\n(.*?)```", Pattern.DOTALL);
    private static final Pattern LINE =
            Pattern.compile("(?:int (\\w+) = )?desk\\.(\\w+)\\(([^)]*)\\); +// (-?\\d+|BAD|NO|FULL|NONE): .*");
    private static final Map<String, Integer> NAMED =
            Map.of("BAD", Check.BAD, "NO", Check.NO, "FULL", Check.FULL, "NONE", Check.NONE);

    private static final Check check = new Check();

    private final WindowDesk desk = new WindowDesk();
    private final Map<String, Integer> numbers = new HashMap<>(NAMED);

    public static void main(String[] args) throws IOException, ReflectiveOperationException {
        String text = Files.readString(Path.of("README.md"));
        Matcher example = EXAMPLE.matcher(text);
        check.due("README.md has an example", example.find() ? 1 : 0, 1);
        new ReadmeTest().run(example.group(1).split("\n"));
        everyCallIsInTheTable(text);
        check.end();
    }

    private void run(String[] lines) throws ReflectiveOperationException {
        check.due(lines[0], lines[0].equals("WindowDesk desk = new WindowDesk();") ? 1 : 0, 1);
        for (int i = 1; i < lines.length; i++) {
            Matcher line = LINE.matcher(lines[i]);
            boolean read = line.matches();
            check.due("can be read: " + lines[i], read ? 1 : 0, 1);
            if (read) {
                int got = answer(line.group(2), line.group(3));
                check.due(lines[i], got, number(line.group(4)));
                numbers.put(line.group(1), got);
            }
        }
    }

    private int answer(String name, String arguments) throws ReflectiveOperationException {
        String[] words = arguments.isEmpty() ? new String[0] : arguments.split(", ");
        Class<?>[] types = new Class<?>[words.length];
        Arrays.fill(types, int.class);
        Object[] values = new Object[words.length];
        for (int i = 0; i < words.length; i++) {
            values[i] = number(words[i]);
        }
        return (int) WindowDesk.class.getMethod(name, types).invoke(desk, values);
    }

    private int number(String word) {
        return numbers.containsKey(word) ? numbers.get(word) : Integer.parseInt(word);
    }

    private static void everyCallIsInTheTable(String text) {
        for (Method method : WindowDesk.class.getDeclaredMethods()) {
            if (Modifier.isPublic(method.getModifiers())) {
                boolean there = text.contains("\n| `" + method.getName() + "(");
                check.due("README.md's table has " + method.getName(), there ? 1 : 0, 1);
            }
        }
    }
}
