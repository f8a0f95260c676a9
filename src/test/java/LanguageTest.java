import java.io.IOException;
import java.lang.management.ManagementFactory;
import java.lang.reflect.Field;
import java.lang.reflect.Method;
import java.lang.reflect.Modifier;
import java.nio.file.Files;
import java.nio.file.Path;
import java.util.Arrays;
import java.util.Set;
import java.util.TreeSet;
import java.util.regex.Matcher;
import java.util.regex.Pattern;

/** The rules of LANGUAGE.md that can be seen in the class or its text. Run from the project's folder. */
public final class LanguageTest {
    private static final Set<String> FACE = new TreeSet<>(Arrays.asList(
            "screen/3", "gone/1", "open/4", "close/1", "focus/1", "back/0", "toward/1", "steps/2", "drag/3",
            "move/3", "share/3", "area/2", "about/2", "isOf/2", "at/3", "neighbour/2", "told/2", "tab/3", "count/1"));
    private static final Set<String> CONSTANTS = Set.of("BAD", "NO", "FULL", "NONE");
    private static final Check check = new Check();

    public static void main(String[] args) throws IOException {
        rule1Face();
        rule1NoPrivateMethodBearsAPublicName();
        rule2NestedClasses();
        rule5StaticFields();
        rule11Sizes();
        rule12ObjectsMade();
        text(Files.readString(Path.of("src/main/java/WindowDesk.java")));
        check.end();
    }

    private static void say(String what, boolean holds) {
        check.due(what, holds ? 1 : 0, 1);
    }

    private static void rule1Face() {
        say("the class is public and final", Modifier.isPublic(WindowDesk.class.getModifiers())
                && Modifier.isFinal(WindowDesk.class.getModifiers()));
        Set<String> found = new TreeSet<>();
        for (Method method : WindowDesk.class.getDeclaredMethods()) {
            if (Modifier.isPublic(method.getModifiers())) {
                found.add(method.getName() + "/" + method.getParameterCount());
                say(method + " answers an int", method.getReturnType() == int.class);
                say(method + " is not static", !Modifier.isStatic(method.getModifiers()));
            } else {
                say(method + " is private", Modifier.isPrivate(method.getModifiers()));
            }
        }
        say("the methods " + found, found.equals(FACE));
        for (Field field : WindowDesk.class.getDeclaredFields()) {
            say(field + " is private or of the face",
                    Modifier.isPrivate(field.getModifiers()) || CONSTANTS.contains(field.getName()));
        }
        check.due("public constructors", WindowDesk.class.getConstructors().length, 1);
        check.due("constructors", WindowDesk.class.getDeclaredConstructors().length, 1);
    }

    private static void rule1NoPrivateMethodBearsAPublicName() {
        for (Class<?> owner : classes()) {
            for (Method method : owner.getDeclaredMethods()) {
                boolean named = FACE.stream().anyMatch(f -> f.startsWith(method.getName() + "/"));
                say(method + " has a name of its own", !named || owner == WindowDesk.class
                        && Modifier.isPublic(method.getModifiers()));
            }
        }
    }

    private static Class<?>[] classes() {
        Class<?>[] nested = WindowDesk.class.getDeclaredClasses();
        Class<?>[] all = Arrays.copyOf(nested, nested.length + 1);
        all[nested.length] = WindowDesk.class;
        return all;
    }

    private static void rule2NestedClasses() {
        for (Class<?> nested : WindowDesk.class.getDeclaredClasses()) {
            int modifiers = nested.getModifiers();
            say(nested + " is static", Modifier.isStatic(modifiers));
            say(nested + " is not public", !Modifier.isPublic(modifiers) && !Modifier.isProtected(modifiers));
        }
    }

    private static void rule5StaticFields() {
        for (Class<?> owner : classes()) {
            for (Field field : owner.getDeclaredFields()) {
                say(field + " is final if it is static",
                        !Modifier.isStatic(field.getModifiers()) || Modifier.isFinal(field.getModifiers()));
            }
        }
    }

    private static void rule11Sizes() {
        say("at most twelve classes", classes().length <= 12);
        for (Class<?> owner : classes()) {
            long fields = Arrays.stream(owner.getDeclaredFields()).filter(f -> !Modifier.isStatic(f.getModifiers())).count();
            say(owner + " has " + fields + " fields", fields <= 20);
            for (Method method : owner.getDeclaredMethods()) {
                say(method + " takes at most seven", method.getParameterCount() <= 7);
            }
        }
    }

    /** All is made with the object; the calls make nothing more, whatever they do. */
    private static void rule12ObjectsMade() {
        busy(new WindowDesk(), 3000);
        WindowDesk desk = new WindowDesk();
        long before = allocated();
        long idle = allocated() - before;
        before = allocated();
        busy(desk, 512);
        long made = allocated() - before - idle;
        say("512 calls make " + made + " bytes", made < 1000);
        before = allocated();
        WindowDesk another = new WindowDesk();
        made = allocated() - before - idle;
        say("an object has " + made + " bytes", made < 40000 && another.count(0) == 0);
    }

    private static long allocated() {
        return ((com.sun.management.ThreadMXBean) ManagementFactory.getThreadMXBean()).getCurrentThreadAllocatedBytes();
    }

    private static void busy(WindowDesk desk, int calls) {
        desk.screen(0, 300, 300);
        desk.screen(1, 300, 300);
        for (int i = 2; i < calls; i++) {
            switch (i % 8) {
                case 0 -> desk.gone(i / 8 % 2);
                case 1 -> desk.screen((i - 1) / 8 % 2, 300, 300);
                case 2 -> desk.open(1 + i / 8 % 2, 10, 10, -1);
                case 3 -> desk.drag(i % 10, i / 3 % 10, i % 5);
                case 4 -> desk.steps(0, 1);
                case 5 -> desk.open(3, 10, 10, i / 8 % 5);
                case 6 -> desk.at(0, i % 300, i % 300);
                default -> desk.close(i / 8 % 10);
            }
        }
    }

    private static void text(String source) {
        for (int i = 0; i < source.length(); i++) {
            say("signs are plain", source.charAt(i) < 128);
        }
        String code = source.replaceAll("(?s)/\\*.*?\\*/", " ").replaceAll("//[^\n]*", " ");
        absent(code, "\\b(throw|throws|try|catch|synchronized|assert|protected|package|yield|sealed|volatile|native)\\b");
        absent(code, "->|::|@|\"");
        absent(code, "\\b(equals|hashCode|toString|Exact|Random|Thread|Object|System\\.(?!arraycopy\\b)\\w+)\\b");
        absent(code, "\\b(double|float|Iterator|Stream|Map|Set)\\b");
        absent(code, "\\bimport (?!java\\.util\\.Arrays;)");
        absent(code, "\\bstatic\\s*\\{");
        say("Arrays only for fill", Pattern.compile("Arrays\\.(?!fill\\b)").matcher(
                code.replaceAll("import [^;]*;", "")).results().count() == 0);
        methodsAreShort(code);
    }

    private static void absent(String code, String pattern) {
        Matcher matcher = Pattern.compile(pattern).matcher(code);
        if (matcher.find()) {
            check.due("the text has '" + matcher.group() + "'", 1, 0);
        }
    }

    private static void methodsAreShort(String code) {
        String[] lines = code.split("\n");
        Pattern head = Pattern.compile("( {4}| {8})(?!if|for|while|switch|else|\\})\\w.*\\) \\{");
        int methods = 0;
        for (int i = 0; i < lines.length; i++) {
            Matcher matcher = head.matcher(lines[i]);
            if (matcher.matches()) {
                int end = i;
                while (!lines[end].equals(matcher.group(1) + "}")) {
                    end++;
                }
                methods++;
                say("at most sixty lines: " + lines[i].trim(), end - i < 60);
            }
        }
        say("the methods were seen", methods > 100);
        say("lines of at most 120 signs", Arrays.stream(lines).allMatch(l -> l.length() <= 120));
    }
}
