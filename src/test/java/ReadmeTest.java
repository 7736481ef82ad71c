import java.io.IOException;
import java.lang.reflect.InvocationTargetException;
import java.lang.reflect.Method;
import java.nio.file.Files;
import java.nio.file.Path;
import java.util.Set;
import java.util.TreeSet;
import java.util.regex.Matcher;
import java.util.regex.Pattern;
import java.util.stream.Stream;

/** What README.md shows is so: each call answers the number behind it, each call and each test is named there. */
public final class ReadmeTest {
    private static final Due due = new Due();
    private static final Pattern LINE = Pattern.compile("x\\.(\\w+)\\(([^)]*)\\); +// (-?\\d+)(:.*)?");

    public static void main(String[] args) throws IOException, ReflectiveOperationException {
        Path project = Path.of(System.getProperty("project"));
        String readme = Files.readString(project.resolve("README.md"));
        examples(readme);
        calls(readme);
        tests(readme, project.resolve("src/test/java"));
        due.end();
    }

    private static void examples(String readme) throws ReflectiveOperationException {
        RegretPegs x = null;
        int shown = 0;
        Matcher block = Pattern.compile("(?s)```java\n(.*?)```").matcher(readme);
        while (block.find()) {
            for (String line : block.group(1).split("\n")) {
                if (line.equals("RegretPegs x = new RegretPegs();")) {
                    x = new RegretPegs();
                } else if (!line.isEmpty()) {
                    example(x, line);
                    shown++;
                }
            }
        }
        due.isTrue("there are examples", shown > 0);
    }

    private static void example(RegretPegs x, String line) throws ReflectiveOperationException {
        Matcher call = LINE.matcher(line);
        boolean hasForm = call.matches();
        due.isTrue("a call and its answer: " + line, hasForm);
        if (hasForm) {
            due.is(line, answer(x, call.group(1), call.group(2)), Long.parseLong(call.group(3)));
        }
    }

    private static int answer(RegretPegs x, String name, String arguments)
            throws IllegalAccessException, InvocationTargetException {
        String[] words = arguments.isEmpty() ? new String[0] : arguments.split(", ");
        for (Method method : RegretPegs.class.getDeclaredMethods()) {
            if (method.getName().equals(name) && method.getParameterCount() == words.length) {
                Object[] values = new Object[words.length];
                for (int i = 0; i < words.length; i++) {
                    long value = Long.decode(words[i].replace("L", ""));
                    if (method.getParameterTypes()[i] == long.class) {
                        values[i] = value;
                    } else {
                        values[i] = Math.toIntExact(value);
                    }
                }
                return (int) method.invoke(x, values);
            }
        }
        throw new IllegalStateException("no call " + name);
    }

    private static void calls(String readme) {
        Set<String> named = new TreeSet<>();
        Matcher name = Pattern.compile("`(\\w+)`").matcher(readme);
        while (name.find()) {
            named.add(name.group(1));
        }
        for (Method method : RegretPegs.class.getDeclaredMethods()) {
            if (java.lang.reflect.Modifier.isPublic(method.getModifiers())) {
                due.isTrue(method.getName() + " is named in README.md", named.contains(method.getName()));
            }
        }
    }

    private static void tests(String readme, Path directory) throws IOException {
        try (Stream<Path> files = Files.list(directory)) {
            files.map(file -> file.getFileName().toString()).filter(file -> file.endsWith("Test.java")).forEach(file ->
                due.isTrue(file + " is in the table", readme.contains("| " + file.replace(".java", "") + " |")));
        }
    }
}
