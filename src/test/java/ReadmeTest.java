import java.lang.reflect.Method;
import java.lang.reflect.Modifier;
import java.net.URL;
import java.net.URLClassLoader;
import java.nio.file.Files;
import java.nio.file.Path;
import java.util.ArrayList;
import java.util.List;
import java.util.regex.Matcher;
import java.util.regex.Pattern;
import java.util.stream.Stream;
import javax.tools.ToolProvider;

/** README.md: it names every call, where the document lies and how many calls an object is for; its example holds. */
public final class ReadmeTest {
    private static final Check check = new Check("ReadmeTest");
    private static final Pattern ANSWERED = Pattern.compile("(?:\\w+ (\\w+) = )?([^;]+); *// -> (\\S+).*");
    private static final String CLASS = "ReadmeExample";

    public static void main(String[] args) throws Exception {
        String page = Files.readString(Path.of("README.md"));
        for (String told : List.of("new MatchBook()", "../shared/DOC.md", "at most 512 calls", ".ci/run", "javac", "NONE")) {
            check.due("README.md tells " + told, page.contains(told), true);
        }
        calls(page);
        example(page);
        check.finish();
    }

    /** A row of the table for each call, with its promise and as many arguments as the class takes. */
    private static void calls(String page) {
        Matcher rows = Pattern.compile("(?m)^\\| (\\d+) \\| `(\\w+)\\(([^)]*)\\)` \\| .+ \\|$").matcher(page);
        List<String> seen = new ArrayList<>();
        while (rows.find()) {
            check.due("promise of row " + rows.group(), Integer.parseInt(rows.group(1)), seen.size() + 2);
            seen.add(rows.group(2) + "/" + (rows.group(3).isEmpty() ? 0 : rows.group(3).split(", ").length));
        }
        int due = 0;
        for (Method m : MatchBook.class.getDeclaredMethods()) {
            if (Modifier.isPublic(m.getModifiers())) {
                due++;
                check.due("README.md has " + m, seen.contains(m.getName() + "/" + m.getParameterCount()), true);
            }
        }
        check.due("rows of calls", seen.size(), due);
    }

    private static void example(String page) throws Exception {
        Matcher block = Pattern.compile("(?s)```java\n(.*?)```").matcher(page);
        check.due("README.md has an example", block.find(), true);
        List<String> calls = new ArrayList<>();
        List<String> wants = new ArrayList<>();
        String source = sourceOf(block.group(1), calls, wants);
        check.due("answers of the example", wants.size() > 10, true);
        List<?> got = play(source);
        for (int k = 0; k < calls.size(); k++) {
            boolean same = String.valueOf(got.get(k)).equals(wants.get(k));
            check.due("README.md: " + calls.get(k) + " answers " + got.get(k) + ", told is " + wants.get(k), same, true);
        }
    }

    private static String sourceOf(String block, List<String> calls, List<String> wants) {
        StringBuilder code = new StringBuilder("public final class " + CLASS + " {\n public static java.util.List<Object> play() {\n"
                + "  java.util.List<Object> got = new java.util.ArrayList<>();\n");
        for (String line : block.split("\n")) {
            Matcher answered = ANSWERED.matcher(line);
            if (!answered.matches()) {
                code.append(line).append('\n');
                continue;
            }
            calls.add(answered.group(2));
            wants.add(answered.group(3));
            // A call that is kept under a name is made once, and then looked at by that name.
            if (answered.group(1) == null) {
                code.append("got.add(").append(answered.group(2)).append(");\n");
            } else {
                code.append(line).append("\ngot.add(").append(answered.group(1)).append(");\n");
            }
        }
        return code.append("  return got;\n }\n}\n").toString();
    }

    private static List<?> play(String source) throws Exception {
        Path dir = Files.createTempDirectory("readme");
        try {
            Path file = Files.writeString(dir.resolve(CLASS + ".java"), source);
            int failed = ToolProvider.getSystemJavaCompiler().run(null, null, null, "-cp", System.getProperty("java.class.path"),
                    "-d", dir.toString(), file.toString());
            if (failed != 0) {
                throw new IllegalStateException("the example does not compile:\n" + source);
            }
            try (URLClassLoader loader = new URLClassLoader(new URL[] {dir.toUri().toURL()})) {
                return (List<?>) loader.loadClass(CLASS).getMethod("play").invoke(null);
            }
        } finally {
            try (Stream<Path> files = Files.list(dir)) {
                for (Path file : files.toList()) {
                    Files.delete(file);
                }
            }
            Files.delete(dir);
        }
    }
}
