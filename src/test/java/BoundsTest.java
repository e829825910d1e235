import java.io.IOException;

/** Each sentence of the document that names a bound has a test of its own. */
public final class BoundsTest {
    public static void main(String[] args) throws IOException {
        Sentences sentences = new Sentences();
        Bounds[] all = {
            new TermBounds(sentences), new ExceptionBounds(sentences), new RecordBounds(sentences),
            new ThingBounds(sentences), new FactBounds(sentences)
        };
        for (Bounds bounds : all) {
            bounds.run();
        }
        sentences.end();
        Checks.end();
    }
}
