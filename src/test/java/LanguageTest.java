import java.io.IOException;
import java.io.PrintWriter;
import java.io.StringWriter;
import java.lang.reflect.Constructor;
import java.lang.reflect.Field;
import java.lang.reflect.Method;
import java.lang.reflect.Modifier;
import java.nio.file.Files;
import java.nio.file.Path;
import java.util.ArrayList;
import java.util.HashMap;
import java.util.HashSet;
import java.util.List;
import java.util.Map;
import java.util.Set;
import java.util.TreeSet;
import java.util.regex.Matcher;
import java.util.regex.Pattern;
import java.util.spi.ToolProvider;

/** What of LANGUAGE.md can be seen by a look at the source and at the class: rules 1, 2, 4, 5, 6 and 11. */
public final class LanguageTest {
    private static final Check CHECK = new Check("LanguageTest");
    private static final Path SOURCE = Path.of("src/main/java/LidsAndCombs.java");

    public static void main(String[] args) throws IOException {
        String source = Files.readString(SOURCE);
        words(source.replaceAll("/\\*\\*?(?s:.*?)\\*/", "").replaceAll("//.*", ""));
        face(source);
        deep();
        CHECK.end();
    }

    private static void words(String code) {
        String[] never = {"\\bthrow\\b", "\\bthrows\\b", "\\btry\\b", "\\bcatch\\b", "\\bassert\\b", "\\bsynchronized\\b",
            "\\bimport\\b", "\\bpackage\\b", "->", "::", "\\bstatic\\s*\\{", "\\bprotected\\b", "\\bnative\\b", "\\bvolatile\\b",
            "\\bObject\\b", "\\bException\\b", "Exact\\(", "\"\\s*\\+", "\\+\\s*\"", "[^\\x00-\\x7f]", "\\bRandom\\b", "\\bcurrentTime"};
        for (String word : never) {
            Matcher found = Pattern.compile(word).matcher(code);
            CHECK.due("no " + word + " in the source", !found.find());
        }
        Matcher library = Pattern.compile("\\b(System|Math|Integer|Long|Arrays|Character|Double|Thread)\\.(\\w+)").matcher(code);
        Set<String> allowed = Set.of("System.arraycopy", "Math.max", "Math.min", "Math.abs", "Long.MIN_VALUE");
        while (library.find()) {
            CHECK.due(library.group() + " is in the library", allowed.contains(library.group()));
        }
        Matcher statics = Pattern.compile("\\bstatic\\s+(?!final\\b)[\\w\\[\\]]+\\s+\\w+\\s*[;=]").matcher(code);
        CHECK.due("static fields are final", !statics.find());
    }

    private static void face(String source) {
        Set<String> open = new TreeSet<>();
        for (Method method : LidsAndCombs.class.getDeclaredMethods()) {
            if (Modifier.isPublic(method.getModifiers())) {
                open.add(method.getName());
            }
        }
        CHECK.due("public methods", open.size(), 37);
        for (Method method : LidsAndCombs.class.getDeclaredMethods()) {
            boolean isPrivate = Modifier.isPrivate(method.getModifiers());
            CHECK.due(method + " is public or private", isPrivate || Modifier.isPublic(method.getModifiers()));
            CHECK.due(method + " bears no public name", !isPrivate || !open.contains(method.getName()));
        }
        for (Field field : LidsAndCombs.class.getDeclaredFields()) {
            boolean isFace = Set.of("NONE", "BAD", "STATE", "FULL", "NO").contains(field.getName());
            CHECK.due(field + " is of the face or private", isFace || Modifier.isPrivate(field.getModifiers()));
        }
        CHECK.due("final", Modifier.isFinal(LidsAndCombs.class.getModifiers()));
        Constructor<?>[] made = LidsAndCombs.class.getDeclaredConstructors();
        CHECK.due("one constructor", made.length == 1 && Modifier.isPublic(made[0].getModifiers()));
        inside(open);
        CHECK.due("no more than sixty lines a method", longest(source) <= 60);
    }

    private static void inside(Set<String> open) {
        Class<?>[] inside = LidsAndCombs.class.getDeclaredClasses();
        CHECK.due("some twelve classes", inside.length <= 11);
        for (Class<?> one : inside) {
            CHECK.due(one + " is static", Modifier.isStatic(one.getModifiers()));
            int fields = 0;
            for (Field field : one.getDeclaredFields()) {
                fields += Modifier.isStatic(field.getModifiers()) ? 0 : 1;
                boolean isChanged = Modifier.isStatic(field.getModifiers()) && !Modifier.isFinal(field.getModifiers());
                CHECK.due(field + " is no static state", !isChanged);
            }
            CHECK.due(one + " has some twenty fields", fields <= 20);
            for (Method method : one.getDeclaredMethods()) {
                CHECK.due(method + " has seven parameters at most", method.getParameterCount() <= 7);
                CHECK.due(method + " bears no public name", !open.contains(method.getName()));
            }
        }
    }

    /** Rule 11: calls that are no recursion go at most eight deep, those to the library counted too. */
    private static void deep() {
        Map<String, Set<String>> calls = new HashMap<>();
        Class<?>[] inside = LidsAndCombs.class.getDeclaredClasses();
        read(LidsAndCombs.class.getName(), calls);
        for (Class<?> one : inside) {
            read(one.getName(), calls);
        }
        CHECK.due("javap tells the methods", calls.size() > 60);
        for (String method : calls.keySet()) {
            List<String> path = new ArrayList<>();
            int deepest = deepest(method, calls, path);
            CHECK.due(method + " goes " + deepest + " deep", deepest <= 8);
        }
    }

    private static int deepest(String method, Map<String, Set<String>> calls, List<String> path) {
        int deepest = 0;
        path.add(method);
        for (String next : calls.getOrDefault(method, Set.of())) {
            if (!path.contains(next)) {
                deepest = Math.max(deepest, deepest(next, calls, path));
            }
        }
        path.remove(path.size() - 1);
        return deepest + 1;
    }

    /** What each method of a class calls, by what javap shows. */
    private static void read(String name, Map<String, Set<String>> calls) {
        StringWriter out = new StringWriter();
        ToolProvider javap = ToolProvider.findFirst("javap").orElseThrow();
        javap.run(new PrintWriter(out), new PrintWriter(out), "-c", "-p", "-cp", System.getProperty("java.class.path"), name);
        String method = null;
        for (String line : out.toString().split("\n")) {
            Matcher opens = Pattern.compile("^  \\S.*?([\\w$]+)\\(.*\\);").matcher(line);
            Matcher call = Pattern.compile("// (?:Interface)?Method ([\\w/$]*\\.)?\"?([\\w<>]+)\"?:").matcher(line);
            if (opens.find()) {
                boolean makes = opens.group(1).equals(name);
                method = name + "." + (makes ? "<init>" : opens.group(1));
                calls.putIfAbsent(method, new HashSet<>());
            } else if (method != null && call.find()) {
                String owner = call.group(1) == null ? name + "." : call.group(1);
                calls.get(method).add(owner + call.group(2));
            }
        }
    }

    /** How many lines the longest stretch is from a line that opens a method to the one that closes it. */
    private static int longest(String source) {
        int longest = 0;
        int start = -1;
        String[] lines = source.split("\n");
        String margin = "";
        for (int n = 0; n < lines.length; n++) {
            Matcher opens = Pattern.compile("^( {4}| {8})(?!.*\\bclass\\b)\\S.*\\) \\{$").matcher(lines[n]);
            if (start < 0 && opens.find()) {
                start = n;
                margin = opens.group(1);
            } else if (start >= 0 && lines[n].equals(margin + "}")) {
                longest = Math.max(longest, n - start + 1);
                start = -1;
            }
        }
        return longest;
    }
}
