import java.io.IOException;
import java.io.UncheckedIOException;
import java.nio.file.Files;
import java.nio.file.Path;

/** The words of the document, one blank between them, so that a sentence can be found whatever its lines are. */
final class Doc {
    private static final String WORDS = read();

    private Doc() {}

    private static String read() {
        try {
            String text = Files.readString(Path.of("../shared/DOC.md"));
            return text.replaceAll("```\\w*", " ").replaceAll("\\s+", " ");
        } catch (IOException e) {
            throw new UncheckedIOException(e);
        }
    }

    static String words() {
        return WORDS;
    }

    /** Where a sentence begins; -1, if it does not stand there or stands there twice: then it names no one place. */
    static int placeOf(String sentence) {
        int first = WORDS.indexOf(sentence);
        return first == WORDS.lastIndexOf(sentence) ? first : -1;
    }
}
