import java.io.IOException;
import java.lang.reflect.Field;
import java.lang.reflect.Modifier;
import java.nio.file.Files;
import java.nio.file.Path;
import java.util.Map;
import java.util.Set;
import java.util.TreeMap;
import java.util.TreeSet;
import java.util.regex.Matcher;
import java.util.regex.Pattern;

/** The rules of ../shared/LANGUAGE.md that the program's text and its classes can show. */
public final class LanguageTest {
    private static final Path PROGRAM = Path.of("src/main/java/Assetmerge.java");
    private static final int MOST_CLASSES = 12;
    private static final int MOST_FIELDS = 20;
    private static final int MOST_PARAMETERS = 7;
    private static final int MOST_LINES = 60;
    private static final int MOST_DEEP = 8;
    private static final String[] RULED_OUT = {
        "->", "::", "\\bfinally\\b", "\\bsynchronized\\b", "\\bassert\\b", "@", "\\bpackage\\b", "Exact\\(", "hashCode",
        "\\bstatic \\{", "\\bwhile \\(true\\)", "for \\(;", "\\bextends \\w*(Exception|Error)\\b",
        "\\btry\\b", "\\bcatch\\b", "\\bdouble\\b", "\\bequals\\b", "\\btoString\\b", "[^\\x00-\\x7f]"
    };
    private static final Set<String> LIBRARY = Set.of("Math.min", "Math.max", "Integer.bitCount");
    private static final Set<String> EXCEPTIONS = Set.of("IllegalStateException", "IllegalArgumentException",
            "IndexOutOfBoundsException", "NoSuchElementException");
    private static final Pattern METHOD = Pattern.compile(
            "(?m)^( {4}| {8})(?:\\w+(?:\\[\\])* )+(\\w+)\\(([^)]*)\\)[^;{]*\\{(?s:.*?)\n\\1\\}");
    private static final Pattern CALL = Pattern.compile("(\\w+)\\(");

    public static void main(String[] args) throws IOException {
        String text = programWithoutComments();
        for (String pattern : RULED_OUT) {
            Matcher found = Pattern.compile(pattern).matcher(text);
            Checks.due(pattern, found.find() ? found.group() : "nothing", "nothing");
        }
        Matcher imports = Pattern.compile("import ([^;]*);").matcher(text);
        while (imports.find()) {
            Checks.due("import", imports.group(1), "java.util.NoSuchElementException");
        }
        library(text);
        exceptions(text);
        classes();
        methods(text);
        Checks.end();
    }

    private static String programWithoutComments() throws IOException {
        StringBuilder code = new StringBuilder();
        for (String line : Files.readAllLines(PROGRAM)) {
            code.append(line.replaceAll("//.*", "")).append('\n');
        }
        return code.toString().replaceAll("(?s)/\\*.*?\\*/", "");
    }

    /** Rule 4. */
    private static void library(String text) {
        Matcher used = Pattern.compile("\\b(?!Assetmerge\\b)[A-Z][a-z]\\w*\\.\\w+").matcher(text);
        while (used.find()) {
            Checks.due(used.group() + " may be used", LIBRARY.contains(used.group()), true);
        }
    }

    /** Rule 6. */
    private static void exceptions(String text) {
        Matcher thrown = Pattern.compile("\\bthrow\\b([^;]*);").matcher(text);
        while (thrown.find()) {
            Matcher plain = Pattern.compile(" new (\\w+)\\(\"[^\"]*\"\\)").matcher(thrown.group(1));
            Checks.due("thrown plainly:" + thrown.group(1),
                    plain.matches() && EXCEPTIONS.contains(plain.group(1)), true);
        }
    }

    /** Rules 2, 5 and 11. */
    private static void classes() {
        Class<?>[] inside = Assetmerge.class.getDeclaredClasses();
        Checks.due("few classes", inside.length + 1 <= MOST_CLASSES, true);
        fields(Assetmerge.class);
        for (Class<?> one : inside) {
            Checks.due(one.getName() + " is static", Modifier.isStatic(one.getModifiers()), true);
            Checks.due("classes inside " + one.getName(), one.getDeclaredClasses().length, 0);
            fields(one);
        }
    }

    private static void fields(Class<?> one) {
        int count = 0;
        for (Field field : one.getDeclaredFields()) {
            boolean constant = Modifier.isStatic(field.getModifiers());
            Checks.due("static state " + field, constant && !Modifier.isFinal(field.getModifiers()), false);
            count += constant ? 0 : 1;
        }
        Checks.due("few fields in " + one.getName(), count <= MOST_FIELDS, true);
    }

    /** Rules 8 and 11. */
    private static void methods(String text) {
        Map<String, Set<String>> calls = new TreeMap<>();
        Matcher method = METHOD.matcher(text);
        while (method.find()) {
            String name = method.group(2);
            Checks.due("parameters of " + name, method.group(3).split(",").length <= MOST_PARAMETERS, true);
            Checks.due("length of " + name, method.group().lines().count() <= MOST_LINES, true);
            // A method of the same name in another class counts as the same one: then more is looked at, not less.
            Set<String> called = calls.computeIfAbsent(name, key -> new TreeSet<>());
            Matcher call = CALL.matcher(method.group().substring(method.group().indexOf('{')));
            while (call.find()) {
                called.add(call.group(1));
            }
        }
        Checks.due("many methods were found", calls.size() > 80, true);
        for (String name : calls.keySet()) {
            Checks.due("calls that " + name + " opens at once go deep", depth(name, calls, 1) <= MOST_DEEP, true);
        }
    }

    /** The number of calls that stand open at once; a recursion counts as too many. */
    private static int depth(String name, Map<String, Set<String>> calls, int above) {
        if (above > MOST_DEEP) {
            return above;
        }
        int deepest = above;
        for (String called : calls.get(name)) {
            if (calls.containsKey(called)) {
                deepest = Math.max(deepest, depth(called, calls, above + 1));
            }
        }
        return deepest;
    }
}
