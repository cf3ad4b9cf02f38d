import java.io.IOException;
import java.lang.reflect.Method;
import java.lang.reflect.Modifier;
import java.nio.file.DirectoryStream;
import java.nio.file.Files;
import java.nio.file.Path;
import java.util.regex.Matcher;
import java.util.regex.Pattern;

/** That what README.md says is so: its example answers as told, and it names each call and each test. */
public final class ReadmeTest {
    private static final Check CHECK = new Check("ReadmeTest");
    private static final Path TESTS = Path.of("src/test/java");
    private static final Pattern CALL = Pattern.compile("x\\.(\\w+)\\(([-\\d, ]*)\\);\\s*// (-?\\d+): .*");
    private static final Pattern FED = Pattern.compile("for \\(char sign : \"(.*)\"\\.toCharArray\\(\\)\\) \\{");

    public static void main(String[] args) throws IOException, ReflectiveOperationException {
        String page = Files.readString(Path.of("README.md"));
        example(page);
        calls(page);
        tests(page);
        CHECK.end();
    }

    private static void example(String page) throws ReflectiveOperationException {
        Matcher block = Pattern.compile("(?s)```java\\n(.*?)```").matcher(page);
        boolean isThere = block.find();
        CHECK.due("README.md has an example", isThere);
        if (!isThere) {
            return;
        }
        LidsAndCombs x = null;
        for (String line : block.group(1).split("\n")) {
            Matcher call = CALL.matcher(line);
            Matcher fed = FED.matcher(line);
            if (line.equals("LidsAndCombs x = new LidsAndCombs();")) {
                x = new LidsAndCombs();
            } else if (call.matches()) {
                CHECK.due(line, answer(x, call.group(1), call.group(2)), Long.parseLong(call.group(3)));
            } else if (fed.matches()) {
                Check.feed(x, fed.group(1));
            } else {
                CHECK.due("\"" + line + "\" is a line that was looked at", line.equals("    x.feed(sign);") || line.equals("}"));
            }
        }
    }

    private static long answer(LidsAndCombs x, String name, String told) throws ReflectiveOperationException {
        String[] numbers = told.isEmpty() ? new String[0] : told.split(", ");
        for (Method method : LidsAndCombs.class.getMethods()) {
            if (method.getName().equals(name) && method.getParameterCount() == numbers.length) {
                Object[] with = new Object[numbers.length];
                for (int k = 0; k < with.length; k++) {
                    with[k] = Integer.parseInt(numbers[k]);
                }
                return ((Number) method.invoke(x, with)).longValue();
            }
        }
        CHECK.due(name + "(" + told + ") is a call", false);
        return LidsAndCombs.NO;
    }

    private static void calls(String page) {
        for (Method method : LidsAndCombs.class.getDeclaredMethods()) {
            if (Modifier.isPublic(method.getModifiers())) {
                CHECK.due("README.md names " + method.getName(), page.contains("`" + method.getName() + "`"));
            }
        }
    }

    private static void tests(String page) throws IOException {
        try (DirectoryStream<Path> files = Files.newDirectoryStream(TESTS, "*Test.java")) {
            for (Path file : files) {
                String test = file.getFileName().toString().replace(".java", "");
                CHECK.due("README.md names " + test, page.contains("| " + test + " | "));
            }
        }
        Matcher named = Pattern.compile("\\| (\\w+Test) \\| ").matcher(page);
        while (named.find()) {
            CHECK.due(named.group(1) + " is there", Files.exists(TESTS.resolve(named.group(1) + ".java")));
        }
    }
}
