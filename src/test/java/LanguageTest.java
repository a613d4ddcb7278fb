import java.io.IOException;
import java.io.PrintWriter;
import java.io.StringWriter;
import java.lang.reflect.Executable;
import java.lang.reflect.Field;
import java.lang.reflect.Method;
import java.lang.reflect.Modifier;
import java.nio.file.Files;
import java.nio.file.Path;
import java.util.ArrayList;
import java.util.Arrays;
import java.util.List;
import java.util.Map;
import java.util.Set;
import java.util.TreeMap;
import java.util.TreeSet;
import java.util.regex.Matcher;
import java.util.regex.Pattern;
import java.util.spi.ToolProvider;

/** What can be seen of LANGUAGE.md in the class's text, and in what the compiler made of it. */
public final class LanguageTest {
    private static final int MOST_PARAMETERS = 7;
    private static final int MOST_LINES = 60;
    private static final int MOST_DEPTH = 8;
    private static final int MOST_CLASSES = 12;
    private static final int MOST_FIELDS = 20;
    /** What the rules out of which a look at the text can find it. */
    private static final String RULED_OUT = "->|::|\\bfinally\\b|\\bsynchronized\\b|\\bassert\\b|\\bpackage\\b|\\bimport\\b"
            + "|\\w+Exact\\b|\\bSystem\\.(?!arraycopy)|\\bMath\\.random|\\bThread\\b|\\bprotected\\b"
            + "|\\b(Byte|Short|Character|Boolean)\\b|_VALUE\\b|\"\\s*\\+|\\+\\s*\"|\\bstatic\\s*\\{"
            + "|\\b(equals|hashCode|toString)\\s*\\(|\\bgetMessage\\b|catch \\((?!Illegal)";
    /** Of rule 4's library and rule 6's exceptions that which the class uses; more of it may be put here. */
    private static final Set<String> LIBRARY = Set.of("java/lang/Object.\"<init>\"", "java/lang/Integer.bitCount",
            "java/lang/Math.min", "java/lang/Math.max", "java/lang/System.arraycopy",
            "java/lang/IllegalArgumentException.\"<init>\"", "java/lang/IllegalStateException.\"<init>\"");
    private static final Pattern CLASS = Pattern.compile("^[a-z].*?class (\\S+).*\\{$");
    private static final Pattern METHOD = Pattern.compile("^  \\S.*?([\\w$]+)\\(.*\\).*;$");
    private static final Pattern CALLED = Pattern.compile("// (?:Interface)?Method ([^:]+):");
    private static final Pattern BEGUN = Pattern.compile("^((?: {4}){1,2})(?! |else|if|for|while|switch|try)[^=]*\\(.*\\{$");

    public static void main(String[] args) throws IOException {
        String text = Files.readString(Path.of("src/main/java/BackwardYears.java"));
        signs(text);
        methodLines(text);
        List<Class<?>> classes = new ArrayList<>(Arrays.asList(BackwardYears.class.getDeclaredClasses()));
        classes.add(BackwardYears.class);
        Due.is(1, "rule 11: classes", Math.max(classes.size(), MOST_CLASSES), MOST_CLASSES);
        for (Class<?> one : classes) {
            members(one);
        }
        calls(classes);
        Due.end();
    }

    private static void signs(String text) {
        String code = text.replaceAll("(?s)/\\*.*?\\*/", "").replaceAll("//[^\n]*", "");
        Matcher matcher = Pattern.compile(RULED_OUT).matcher(code);
        String found = matcher.find() ? matcher.group() : "";
        Due.is(1, "nothing that the rules rule out, but " + found, found.length(), 0);
        Due.is(1, "signs 1 to 127 alone", text.chars().allMatch(c -> c > 0 && c < 128) ? 1 : 0, 1);
    }

    private static void methodLines(String text) {
        String[] lines = text.split("\n");
        int methods = 0;
        for (int i = 0; i < lines.length; i++) {
            Matcher begun = BEGUN.matcher(lines[i]);
            if (begun.matches()) {
                methods++;
                int end = i;
                while (end < lines.length && !lines[end].equals(begun.group(1) + "}")) {
                    end++;
                }
                Due.is(1, "rule 11: lines of" + lines[i], Math.max(end - i + 1, MOST_LINES), MOST_LINES);
            }
        }
        Due.is(1, "methods were found", methods > 100 ? 1 : 0, 1);
    }

    private static void members(Class<?> one) {
        int fields = 0;
        for (Field field : one.getDeclaredFields()) {
            boolean isStatic = Modifier.isStatic(field.getModifiers());
            fields += isStatic ? 0 : 1;
            Due.is(1, "rule 5: final " + field, isStatic && !Modifier.isFinal(field.getModifiers()) ? 1 : 0, 0);
        }
        Due.is(1, "rule 11: fields of " + one, Math.max(fields, MOST_FIELDS), MOST_FIELDS);
        List<Executable> all = new ArrayList<>(Arrays.asList(one.getDeclaredMethods()));
        all.addAll(Arrays.asList(one.getDeclaredConstructors()));
        for (Executable each : all) {
            Due.is(1, "rule 11: parameters of " + each, Math.max(each.getParameterCount(), MOST_PARAMETERS),
                    MOST_PARAMETERS);
        }
        for (Method method : one.getDeclaredMethods()) {
            boolean isNative = (method.getModifiers() & (Modifier.NATIVE | Modifier.SYNCHRONIZED)) != 0;
            Due.is(1, "rule 6: plain " + method, isNative ? 1 : 0, 0);
        }
    }

    /** What each method calls: of the library what is listed alone, of the class itself no chain too deep. */
    private static void calls(List<Class<?>> classes) {
        Map<String, Set<String>> called = new TreeMap<>();
        String inClass = "";
        String inMethod = "";
        for (String line : compiled(classes).split("\n")) {
            Matcher begun = CLASS.matcher(line);
            Matcher method = METHOD.matcher(line);
            Matcher call = CALLED.matcher(line);
            if (begun.find()) {
                inClass = begun.group(1);
            } else if (method.find()) {
                String name = method.group(1).equals(inClass) ? "\"<init>\"" : method.group(1);
                inMethod = inClass + "." + name;
                called.putIfAbsent(inMethod, new TreeSet<>());
            } else if (call.find()) {
                String name = call.group(1).contains(".") ? call.group(1) : inClass + "." + call.group(1);
                boolean own = name.startsWith("BackwardYears");
                Due.is(1, "rule 4: " + inMethod + " calls " + name, own || LIBRARY.contains(name) ? 1 : 0, 1);
                if (own) {
                    called.get(inMethod).add(name);
                }
            }
        }
        Due.is(1, "methods were found", called.size() > 100 ? 1 : 0, 1);
        for (String method : called.keySet()) {
            Due.is(1, "rule 11: calls below " + method, Math.max(depth(method, called, 1), MOST_DEPTH), MOST_DEPTH);
        }
    }

    private static String compiled(List<Class<?>> classes) {
        List<String> words = new ArrayList<>(List.of("-p", "-c", "-cp", System.getProperty("java.class.path")));
        for (Class<?> one : classes) {
            words.add(one.getName());
        }
        StringWriter out = new StringWriter();
        PrintWriter printer = new PrintWriter(out);
        int failed = ToolProvider.findFirst("javap").orElseThrow().run(printer, printer, words.toArray(new String[0]));
        Due.is(1, "the compiled class can be read", failed, 0);
        return out.toString();
    }

    /** How many calls stand open at once from a method on; a method that comes to itself is deeper than any. */
    private static int depth(String method, Map<String, Set<String>> called, int open) {
        int most = open;
        if (open <= MOST_DEPTH) {
            for (String next : called.getOrDefault(method, heirs(method, called))) {
                most = Math.max(most, depth(next, called, open + 1));
            }
        }
        return most;
    }

    /** A method that a class has from the one above it is named there by its own class. */
    private static Set<String> heirs(String method, Map<String, Set<String>> called) {
        String name = method.substring(method.lastIndexOf('.'));
        Set<String> all = new TreeSet<>();
        for (Map.Entry<String, Set<String>> entry : called.entrySet()) {
            if (entry.getKey().endsWith(name)) {
                all.addAll(entry.getValue());
            }
        }
        return all;
    }
}
