import java.io.IOException;
import java.lang.reflect.Method;
import java.lang.reflect.Modifier;
import java.nio.charset.StandardCharsets;
import java.nio.file.Files;
import java.nio.file.Path;
import java.util.regex.Matcher;
import java.util.regex.Pattern;

/**
 * README.md: its example answers what it says, and it tells of each method, each constant and each test. The path of
 * the program is the argument.
 */
public final class ReadmeTest {
    private static final Path FROM_ROOT = Path.of("src", "main", "java", "RingPlanes.java");
    private static final Pattern CALL = Pattern.compile("planes\\.(\\w+)\\((.*)\\); +// (-?\\w+).*");

    private final Check check = new Check("ReadmeTest");
    private final String page;

    private ReadmeTest(String page) {
        this.page = page;
    }

    public static void main(String[] args) throws IOException, ReflectiveOperationException {
        Path root = Path.of(args[0]).toAbsolutePath();
        for (int k = 0; k < FROM_ROOT.getNameCount(); k++) {
            root = root.getParent();
        }
        ReadmeTest test = new ReadmeTest(Files.readString(root.resolve("README.md"), StandardCharsets.UTF_8));
        test.example();
        test.methods();
        test.constants();
        test.tests(root.resolve(Path.of("src", "test", "java")));
        test.check.end();
    }

    private void example() throws ReflectiveOperationException {
        int begin = page.indexOf("```java\n");
        int end = page.indexOf("```\n", begin + 3);
        check.holds("an example", begin >= 0 && end > begin);
        RingPlanes planes = new RingPlanes();
        int calls = 0;
        for (String line : page.substring(begin, end).split("\n")) {
            Matcher call = CALL.matcher(line);
            if (call.matches()) {
                calls++;
                check.due(line, due(call.group(3)), answer(planes, call.group(1), call.group(2)));
            } else {
                check.holds("not a call: " + line, line.startsWith("```") || line.contains("new RingPlanes()"));
            }
        }
        check.holds("calls in the example", calls > 5);
    }

    private static int due(String told) throws ReflectiveOperationException {
        return told.matches("-?\\d+") ? Integer.parseInt(told) : RingPlanes.class.getField(told).getInt(null);
    }

    private static int answer(RingPlanes planes, String name, String list) throws ReflectiveOperationException {
        String[] told = list.isEmpty() ? new String[0] : list.split(", *");
        Object[] arguments = new Object[told.length];
        Class<?>[] types = new Class<?>[told.length];
        for (int k = 0; k < told.length; k++) {
            arguments[k] = told[k].startsWith("'") ? told[k].charAt(1) : Integer.parseInt(told[k]);
            types[k] = int.class;
        }
        return (int) RingPlanes.class.getMethod(name, types).invoke(planes, arguments);
    }

    /** A row of a table begins with each method and names as many parameters as it has. */
    private void methods() {
        for (Method method : RingPlanes.class.getDeclaredMethods()) {
            if (Modifier.isPublic(method.getModifiers())) {
                Matcher row = Pattern.compile("\n\\| `" + method.getName() + "\\((.*?)\\)` \\|").matcher(page);
                int told = row.find() ? parameters(row.group(1)) : -1;
                check.due("parameters in the row for " + method.getName(), method.getParameterCount(), told);
                check.holds("no other row for " + method.getName(), !row.find());
            }
        }
    }

    private static int parameters(String list) {
        return list.isEmpty() ? 0 : list.split(", ").length;
    }

    private void constants() throws ReflectiveOperationException {
        for (String name : new String[] {"INVALID_ARGUMENT", "NOT_POSSIBLE", "LIMIT_REACHED", "NOT_FOUND"}) {
            check.holds(name, page.contains("\n| `" + name + "` | " + due(name) + " |"));
        }
    }

    private void tests(Path folder) throws IOException {
        try (var files = Files.newDirectoryStream(folder, "*Test.java")) {
            for (Path file : files) {
                String name = file.getFileName().toString().replace(".java", "");
                boolean ofPromise = name.matches("Promise(0[1-9]|1\\d|2[0-3])Test");
                String told = ofPromise ? "\n| Promise01Test to Promise23Test |" : name;
                check.holds("a row for " + name, page.contains(told));
            }
        }
    }
}
