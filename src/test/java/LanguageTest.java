import java.io.IOException;
import java.nio.file.Files;
import java.nio.file.Path;
import java.util.List;
import java.util.regex.Matcher;
import java.util.regex.Pattern;

/** The rules of ../shared/LANGUAGE.md that the text of the program can show. */
public final class LanguageTest {
    private static final Path PROGRAM = Path.of("src/main/java/Assetmerge.java");
    private static final int MOST_CLASSES = 12;
    private static final String[] RULED_OUT = {
        "->", "::", "\\bfinally\\b", "\\bsynchronized\\b", "\\bassert\\b", "@", "\\bpackage\\b", "Exact\\(", "hashCode",
        "\\bstatic \\{", "\\bwhile \\(true\\)", "for \\(;", "\\bextends \\w*(Exception|Error)\\b",
        "catch \\((Exception|RuntimeException|Throwable|ArithmeticException|IndexOutOfBoundsException|\\w*Pointer)",
        "[^\\x00-\\x7f]"
    };

    public static void main(String[] args) throws IOException {
        List<String> lines = Files.readAllLines(PROGRAM);
        StringBuilder code = new StringBuilder();
        for (String line : lines) {
            code.append(line.replaceAll("//.*", "")).append('\n');
        }
        String text = code.toString().replaceAll("(?s)/\\*.*?\\*/", "");
        for (String pattern : RULED_OUT) {
            Matcher found = Pattern.compile(pattern).matcher(text);
            Checks.due(pattern, found.find() ? found.group() : "nothing", "nothing");
        }
        Matcher imports = Pattern.compile("import ([^;]*);").matcher(text);
        while (imports.find()) {
            Checks.due("import", imports.group(1), "java.util.NoSuchElementException");
        }
        Checks.due("few classes", text.split("\\bclass\\b").length - 1 <= MOST_CLASSES, true);
        Checks.end();
    }
}
