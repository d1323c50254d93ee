import java.io.IOException;
import java.io.UncheckedIOException;
import java.nio.file.Files;
import java.nio.file.Path;

/** The document, so that a test can name the words that it is about, and no words that don't stand there. */
final class Document {
    private static final String TEXT = read();

    private Document() {
    }

    static boolean says(String words) {
        return TEXT.contains(words);
    }

    /** The document breaks its lines anywhere: a break is a space here. */
    private static String read() {
        try {
            return Files.readString(Path.of("../shared/DOC.md")).replaceAll("\\s+", " ");
        } catch (IOException e) {
            throw new UncheckedIOException(e);
        }
    }
}
