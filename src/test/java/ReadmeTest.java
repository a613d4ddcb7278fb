import java.io.IOException;
import java.net.URL;
import java.net.URLClassLoader;
import java.nio.file.Files;
import java.nio.file.Path;
import java.util.ArrayList;
import java.util.List;
import java.util.regex.Matcher;
import java.util.regex.Pattern;
import javax.tools.ToolProvider;

/** What README.md shows: its programs compile, and each call answers what stands behind it. */
public final class ReadmeTest {
    private static final Pattern SHOWN = Pattern.compile("(years\\.\\w+\\(.*\\)); +// (-?\\d+|throws \\w+): .*");
    private static final Path SOURCES = Path.of("src", "test", "java");
    private static final Path BUILT = Path.of("build", "readme");
    private static final String HEAD = "public final class Shown {\n"
            + "    public static java.util.List<String> answers() {\n"
            + "        java.util.List<String> answers = new java.util.ArrayList<>();\n";
    private static final String FOOT = "        return answers;\n    }\n}\n";

    public static void main(String[] args) throws IOException, ReflectiveOperationException {
        String readme = Files.readString(Path.of("README.md"));
        programs(readme);
        tests(readme);
        Due.end();
    }

    /** All programs of the page are one: each goes on where the one ahead of it ended. */
    private static void programs(String readme) throws IOException, ReflectiveOperationException {
        StringBuilder program = new StringBuilder(HEAD);
        List<String> calls = new ArrayList<>();
        List<String> due = new ArrayList<>();
        boolean inside = false;
        for (String line : readme.split("\n")) {
            Matcher shown = SHOWN.matcher(line);
            if (line.startsWith("```")) {
                inside = line.equals("```java");
            } else if (inside && shown.matches()) {
                calls.add(shown.group(1));
                due.add(shown.group(2));
                program.append(asked(shown.group(1)));
            } else if (inside) {
                Due.is(1, "README.md shows an answer behind " + line, line.startsWith("years.") ? 1 : 0, 0);
                program.append(line).append('\n');
            }
        }
        Due.is(1, "README.md shows calls", calls.isEmpty() ? 1 : 0, 0);
        List<String> answers = answers(program.append(FOOT).toString());
        Due.is(1, "so many calls in README.md", answers.size(), calls.size());
        for (int i = 0; i < Math.min(calls.size(), answers.size()); i++) {
            String told = calls.get(i) + " in README.md, there " + due.get(i) + ", here " + answers.get(i);
            Due.is(1, told, answers.get(i).equals(due.get(i)) ? 1 : 0, 1);
        }
    }

    private static String asked(String call) {
        return "try {\n    answers.add(String.valueOf(" + call + "));\n} catch (RuntimeException e) {\n"
                + "    answers.add(\"throws \" + e.getClass().getSimpleName());\n}\n";
    }

    @SuppressWarnings("unchecked")
    private static List<String> answers(String program) throws IOException, ReflectiveOperationException {
        Files.createDirectories(BUILT);
        Path file = BUILT.resolve("Shown.java");
        Files.writeString(file, program);
        int failed = ToolProvider.getSystemJavaCompiler().run(null, null, null,
                "-cp", System.getProperty("java.class.path"), "-d", BUILT.toString(), file.toString());
        Due.is(1, "the programs in README.md compile", failed, 0);
        if (failed != 0) {
            return List.of();
        }
        try (URLClassLoader loader = new URLClassLoader(new URL[] {BUILT.toUri().toURL()})) {
            return (List<String>) loader.loadClass("Shown").getMethod("answers").invoke(null);
        }
    }

    /** The page tells of each test, and of no other. */
    private static void tests(String readme) throws IOException {
        List<String> told = new ArrayList<>();
        Matcher row = Pattern.compile("\\| `(\\w+Test)` \\|").matcher(readme);
        while (row.find()) {
            told.add(row.group(1));
            boolean there = Files.exists(SOURCES.resolve(row.group(1) + ".java"));
            Due.is(1, "there is a " + row.group(1), there ? 1 : 0, 1);
        }
        try (var files = Files.newDirectoryStream(SOURCES, "*Test.java")) {
            for (Path file : files) {
                String name = file.getFileName().toString().replace(".java", "");
                Due.is(1, "README.md tells of " + name, told.contains(name) ? 1 : 0, 1);
            }
        }
        Due.is(1, ".ci/run, as README.md tells it, can be run", Files.isExecutable(Path.of(".ci/run")) ? 1 : 0, 1);
    }
}
