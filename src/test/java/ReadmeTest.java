import java.io.File;
import java.io.IOException;
import java.lang.reflect.Field;
import java.lang.reflect.Method;
import java.lang.reflect.Modifier;
import java.nio.file.Files;
import java.nio.file.Path;
import java.util.List;
import java.util.regex.Matcher;
import java.util.regex.Pattern;

/** What README.md tells of the class: its example, its constants, its methods, and which tests there are. */
public final class ReadmeTest {
    private static final Path README = Path.of("README.md");
    private static final Pattern CALL = Pattern.compile(" {4}x\\.(\\w+)\\((.*)\\); +// (\\w+|-\\d+): .*");
    private static final Check check = new Check();

    public static void main(String[] args) throws Exception {
        List<String> lines = Files.readAllLines(README);
        example(lines);
        constants(lines);
        methods(lines);
        tests(lines);
        check.finish();
    }

    private static void example(List<String> lines) throws Exception {
        OverflowRows x = new OverflowRows();
        int calls = 0;
        for (String line : lines) {
            Matcher call = CALL.matcher(line);
            if (call.matches()) {
                calls++;
                check.due(line.strip(), answer(x, call.group(1), call.group(2)), number(call.group(3)));
            }
            check.due("can be read: " + line, line.startsWith("    x.") && !call.matches() ? 1 : 0, 0);
        }
        check.due("calls of the example", calls > 15 ? 1 : 0, 1);
    }

    private static int answer(OverflowRows x, String name, String given) throws Exception {
        String[] words = given.isEmpty() ? new String[0] : given.split(", ");
        for (Method method : OverflowRows.class.getMethods()) {
            if (method.getName().equals(name) && method.getParameterCount() == words.length) {
                Object[] arguments = new Object[words.length];
                for (int i = 0; i < words.length; i++) {
                    long number = number(words[i]);
                    // An Integer and a Long are not two forms of one number for the ?: of Java.
                    if (method.getParameterTypes()[i] == long.class) {
                        arguments[i] = number;
                    } else {
                        arguments[i] = (int) number;
                    }
                }
                return (int) method.invoke(x, arguments);
            }
        }
        throw new IllegalStateException("no method " + name + " of " + words.length + " arguments");
    }

    private static long number(String word) throws Exception {
        String name = word.replace("OverflowRows.", "");
        boolean isConstant = Character.isUpperCase(name.charAt(0));
        return isConstant ? OverflowRows.class.getField(name).getInt(null) : Long.decode(name.replace("L", ""));
    }

    private static void constants(List<String> lines) throws Exception {
        for (Field field : OverflowRows.class.getFields()) {
            String row = "| `" + field.getName() + "` | " + field.getInt(null) + " | ";
            check.due("lines that begin with " + row, beginWith(lines, row), 1);
        }
    }

    private static void methods(List<String> lines) {
        for (Method method : OverflowRows.class.getDeclaredMethods()) {
            if (Modifier.isPublic(method.getModifiers())) {
                String row = "| `" + method.getName() + "(";
                check.due("lines that begin with " + row, beginWith(lines, row), 1);
            }
        }
    }

    private static long beginWith(List<String> lines, String words) {
        return lines.stream().filter(line -> line.startsWith(words)).count();
    }

    private static void tests(List<String> lines) throws IOException {
        String readme = String.join("\n", lines);
        File[] files = new File("src/test/java").listFiles();
        for (File file : files == null ? new File[0] : files) {
            String name = file.getName().replace(".java", "");
            if (name.endsWith("Test")) {
                check.due(name + " is named", readme.contains("`" + name + "`") ? 1 : 0, 1);
            }
        }
    }
}
