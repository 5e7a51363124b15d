import java.io.IOException;
import java.lang.reflect.InvocationTargetException;
import java.lang.reflect.Method;
import java.nio.file.Files;
import java.nio.file.Path;
import java.util.ArrayList;
import java.util.List;
import java.util.regex.Matcher;
import java.util.regex.Pattern;

/** README.md: its example answers as it says, and each call of the face has a row with all that it throws. */
public final class ReadmeTest {
    private static final Pattern STEP = Pattern.compile("^ +x\\.(\\w+)\\(([^)]*)\\); +// (throws \\w+|-?\\w+)");
    private static final Pattern TOLD = Pattern.compile("^ +tell\\(x, \"(.*)\"\\);");
    private static final Pattern ROW = Pattern.compile("(?m)^\\| `(\\w+)\\(([^)]*)\\)` \\| (.+) \\|(.*)\\|$");

    public static void main(String[] args) throws IOException, ReflectiveOperationException {
        String page = Files.readString(Path.of("README.md"));
        String example = Files.readString(Path.of("src/test/java/Example.java"));
        Check.due("the example stands in README.md", page.contains("```java\n" + example + "```\n"), true);
        Example.main(new String[0]);
        example(example);
        rows(page);
        tests(page);
        Check.close();
    }

    private static void example(String text) throws ReflectiveOperationException {
        HungFaces x = new HungFaces();
        int steps = 0;
        for (String line : text.split("\n")) {
            Matcher told = TOLD.matcher(line);
            Matcher step = STEP.matcher(line);
            if (told.find()) {
                Example.tell(x, told.group(1).translateEscapes());
            } else if (step.find()) {
                steps++;
                String want = step.group(3).equals("NONE") ? "-1" : step.group(3);
                Check.due("the example: " + line.trim(), answer(x, step.group(1), step.group(2)), want);
            }
        }
        Check.due("steps of the example", steps > 20, true);
    }

    private static String answer(HungFaces x, String name, String told) throws ReflectiveOperationException {
        List<Object> numbers = new ArrayList<>();
        for (String number : told.split(", ")) {
            if (!number.isEmpty()) {
                numbers.add(Integer.parseInt(number));
            }
        }
        try {
            return String.valueOf(named(name).invoke(x, numbers.toArray()));
        } catch (InvocationTargetException e) {
            return "throws " + e.getCause().getClass().getSimpleName();
        }
    }

    private static Method named(String name) throws NoSuchMethodException {
        for (Method method : HungFaces.class.getDeclaredMethods()) {
            if (method.getName().equals(name)) {
                return method;
            }
        }
        throw new NoSuchMethodException(name);
    }

    private static void rows(String page) throws NoSuchMethodException {
        List<String> seen = new ArrayList<>();
        Matcher row = ROW.matcher(page);
        while (row.find()) {
            Method method = named(row.group(1));
            seen.add(method.getName());
            int arguments = row.group(2).isEmpty() ? 0 : row.group(2).split(", ").length;
            Check.due("arguments of " + method.getName(), arguments, method.getParameterCount());
            List<String> thrown = new ArrayList<>();
            for (Class<?> type : method.getExceptionTypes()) {
                thrown.add(type.getSimpleName());
            }
            Check.due("what " + method.getName() + " throws", row.group(4).trim(), String.join(", ", thrown));
        }
        for (Method method : HungFaces.class.getMethods()) {
            if (method.getDeclaringClass() == HungFaces.class) {
                Check.due("a row of " + method.getName(), seen.contains(method.getName()), true);
            }
        }
        Check.due("rows", seen.size(), 49);
    }

    private static void tests(String page) throws IOException {
        try (var files = Files.list(Path.of("src/test/java"))) {
            for (Path file : files.toList()) {
                String name = file.getFileName().toString().replace(".java", "");
                Check.due("a row of " + name, !name.endsWith("Test") || page.contains("| " + name + " |"), true);
            }
        }
    }
}
