import java.io.IOException;
import java.nio.file.Files;
import java.nio.file.Path;

/** A sentence of the document with the test that is its own. */
final class Sentence {
    private static final String DOCUMENT = read(Path.of("../shared/DOC.md"));

    private Sentence() { }

    /** What is not as due is told with the sentence, which must stand in the document word for word. */
    static void holds(String words, Runnable test) {
        Due.under(words);
        Due.yes("the document says this", DOCUMENT.isEmpty() || DOCUMENT.contains(words));
        test.run();
        Due.under("");
    }

    /** Without the document the tests still run; only their words are not looked up. */
    private static String read(Path path) {
        try {
            return Files.readString(path).replaceAll("\\s+", " ");
        } catch (IOException e) {
            return "";
        }
    }
}
