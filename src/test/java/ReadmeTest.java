import java.io.File;
import java.io.IOException;
import java.lang.reflect.Method;
import java.lang.reflect.Modifier;
import java.nio.file.DirectoryStream;
import java.nio.file.Files;
import java.nio.file.Path;
import java.util.ArrayList;
import java.util.List;
import java.util.Set;
import java.util.TreeMap;
import java.util.TreeSet;
import java.util.regex.Matcher;
import java.util.regex.Pattern;

/** What README.md shows of calls and answers is what the program does, and its tables are whole. */
public final class ReadmeTest {
    private static final Path README = Path.of("README.md");
    private static final Path DOCUMENT = Path.of("../shared/DOC.md");
    private static final Path TESTS = Path.of("src/test/java");
    private static final Path FOLDER = Path.of("build/readme");
    private static final String PROGRAM = "ReadmeExample";
    private static final Pattern NEW_OBJECT = Pattern.compile("Assetmerge \\w+ = new Assetmerge\\(\\);");
    private static final Pattern SHOWN_CALL = Pattern.compile(
            "(?:int (\\w+) = )?(\\w+\\.(\\w+)\\([^)]*\\)); *// (throws )?([-\\w.]+)(?:: .+)?");
    private static final Pattern CALL_ROW = Pattern.compile("\\| `(\\w+ (\\w+)\\(.*\\))` \\| .+ \\| (.*)\\|");
    private static final Pattern EXCEPTION_ROW = Pattern.compile("\\| (\\w+) \\| `(\\w+)` \\| .+ \\|");
    private static final Pattern TEST_ROW = Pattern.compile("\\| `(\\w+Test)` \\| .+ \\|");

    public static void main(String[] args) throws IOException, InterruptedException {
        List<String> lines = Files.readAllLines(README);
        examples(lines);
        calls(lines);
        tests(lines);
        Checks.end();
    }

    // ---- the examples ----

    private static void examples(List<String> lines) throws IOException, InterruptedException {
        Set<String> shown = new TreeSet<>();
        StringBuilder program = new StringBuilder();
        program.append("public final class " + PROGRAM + " {\n    public static void main(String[] args) {\n");
        for (String line : examplesOf(lines)) {
            Matcher call = SHOWN_CALL.matcher(line);
            if (call.matches()) {
                program.append(check(call));
                shown.add(call.group(3));
            } else {
                Checks.due("without an answer in README.md: " + line, NEW_OBJECT.matcher(line).matches(), true);
                program.append(line).append('\n');
            }
        }
        program.append("        Checks.end();\n    }\n}\n");
        Checks.due("calls that README.md shows", shown, namesOfFace());
        run(program.toString());
    }

    private static List<String> examplesOf(List<String> lines) {
        List<String> examples = new ArrayList<>();
        boolean open = false;
        for (String line : lines) {
            if (line.startsWith("```")) {
                open = line.equals("```java");
            } else if (open) {
                examples.add(line);
            }
        }
        return examples;
    }

    /** A line of the program that compares the call's answer with the one that stands behind it. */
    private static String check(Matcher shown) {
        String name = shown.group(1);
        String call = shown.group(2);
        String due = '"' + shown.group(5) + '"';
        if (shown.group(4) != null) {
            return "Checks.due(\"" + call + "\", Checks.thrown(() -> " + call + "), " + due + ");\n";
        }
        String start = name == null ? "" : "int " + name + " = " + call + ";\n";
        String got = name == null ? call : name;
        return start + "Checks.due(\"" + call + "\", String.valueOf(" + got + "), " + due + ");\n";
    }

    private static void run(String program) throws IOException, InterruptedException {
        Files.createDirectories(FOLDER);
        Path file = FOLDER.resolve(PROGRAM + ".java");
        Files.writeString(file, program);
        String classes = System.getProperty("java.class.path");
        Checks.due("the examples of README.md compile",
                exitOf("javac", "--release", "17", "-cp", classes, "-d", FOLDER.toString(), file.toString()), 0);
        Checks.due("the examples of README.md answer as they are shown",
                exitOf("java", "-cp", classes + File.pathSeparator + FOLDER, PROGRAM), 0);
    }

    private static int exitOf(String... command) throws IOException, InterruptedException {
        return new ProcessBuilder(command).inheritIO().start().waitFor();
    }

    // ---- the tables ----

    private static Set<String> namesOfFace() {
        Set<String> names = new TreeSet<>();
        for (Method method : Assetmerge.class.getDeclaredMethods()) {
            if (Modifier.isPublic(method.getModifiers())) {
                names.add(method.getName());
            }
        }
        return names;
    }

    /** The rows of the calls have the document's signatures in its order, and the exceptions that it lists. */
    private static void calls(List<String> lines) throws IOException {
        TreeMap<String, String> exceptions = new TreeMap<>();
        StringBuilder got = new StringBuilder();
        for (String line : lines) {
            Matcher exception = EXCEPTION_ROW.matcher(line);
            if (exception.matches()) {
                exceptions.put(exception.group(1), exception.group(2));
            }
            Matcher call = CALL_ROW.matcher(line);
            if (call.matches()) {
                got.append("    public ").append(call.group(1));
                got.append(thrown(call.group(3).strip(), exceptions)).append(";\n");
            }
        }
        Checks.due("the table of the calls in README.md", got.toString(), face());
    }

    private static String thrown(String shorts, TreeMap<String, String> exceptions) {
        if (shorts.isEmpty()) {
            return "";
        }
        List<String> names = new ArrayList<>();
        for (String one : shorts.split(", ")) {
            names.add(exceptions.getOrDefault(one, "no exception for " + one));
        }
        return " throws " + String.join(", ", names);
    }

    private static String face() throws IOException {
        StringBuilder face = new StringBuilder();
        for (String line : Files.readAllLines(DOCUMENT)) {
            if (line.startsWith("    public ") && !line.contains("Assetmerge()")) {
                face.append(line).append('\n');
            }
        }
        return face.toString();
    }

    /** Each test of the project has its row, and each row its test. */
    private static void tests(List<String> lines) throws IOException {
        Set<String> told = new TreeSet<>();
        for (String line : lines) {
            Matcher row = TEST_ROW.matcher(line);
            if (row.matches()) {
                told.add(row.group(1));
            }
        }
        Set<String> present = new TreeSet<>();
        try (DirectoryStream<Path> files = Files.newDirectoryStream(TESTS, "*Test.java")) {
            for (Path file : files) {
                present.add(file.getFileName().toString().replace(".java", ""));
            }
        }
        Checks.due("the table of the tests in README.md", told, present);
    }
}
