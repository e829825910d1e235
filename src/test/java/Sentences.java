import java.io.IOException;
import java.nio.file.Files;
import java.nio.file.Path;
import java.util.ArrayList;
import java.util.LinkedHashSet;
import java.util.List;
import java.util.Set;

/** The sentences of ../shared/DOC.md: a test names the one that it holds to, and those with bounds all need a test. */
final class Sentences {
    /** The number under which sentences ahead of the promise 1 are named. */
    static final int AHEAD = 0;

    private static final Path DOCUMENT = Path.of("../shared/DOC.md");
    private static final int LAST_PROMISE = 37;
    private static final String TERMS_FROM = "Sources and records. At most";
    private static final String TERMS_TO = "Ahead of the calls";

    private final List<String> sections = new ArrayList<>();
    private final Set<String> tested = new LinkedHashSet<>();
    private String now = "";
    private int checksBefore = 0;

    Sentences() throws IOException {
        for (String section : Files.readString(DOCUMENT).split("\n## (?=Promise |Not promised)")) {
            sections.add(section);
        }
    }

    /** The checks behind this call, up to the next one, hold to a sentence of a promise. */
    void begin(int promise, String sentence) {
        endOne();
        now = name(promise, sentence);
        Checks.due("the document has " + now, onOneLine(sections.get(promise)).contains(sentence), true);
        Checks.due("a second test of " + now, tested.add(now), true);
        checksBefore = Checks.count();
    }

    private void endOne() {
        Checks.due("checks under " + now, Checks.count() > checksBefore || now.isEmpty(), true);
    }

    String now() {
        return now;
    }

    /** Each sentence that names a bound has had its test. */
    void end() {
        endOne();
        for (String sentence : sentencesOfTerms()) {
            Checks.due("a test of " + name(AHEAD, sentence), tested.contains(name(AHEAD, sentence)), true);
        }
        for (int promise = 1; promise <= LAST_PROMISE; promise++) {
            for (String line : sections.get(promise).split("\n")) {
                if (namesBound(line)) {
                    Checks.due("a test of " + name(promise, line), tested.contains(name(promise, line)), true);
                }
            }
        }
    }

    private static boolean namesBound(String line) {
        return line.startsWith("Throws") || line.contains("-1") || line.contains("left out")
                || line.contains("less than");
    }

    private List<String> sentencesOfTerms() {
        String terms = onOneLine(sections.get(AHEAD));
        terms = terms.substring(terms.indexOf(TERMS_FROM));
        terms = terms.substring(0, terms.indexOf(TERMS_TO)).strip();
        List<String> sentences = new ArrayList<>();
        for (String sentence : terms.split("(?<=\\.) ")) {
            // A heading in front of a paragraph has no verb: three words at the most.
            if (sentence.split(" ").length > 3) {
                sentences.add(sentence);
            }
        }
        return sentences;
    }

    private static String name(int promise, String sentence) {
        return promise + " \"" + sentence + "\"";
    }

    private static String onOneLine(String text) {
        return text.replaceAll("\\s+", " ");
    }
}
