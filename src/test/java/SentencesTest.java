import java.io.IOException;
import java.nio.file.DirectoryStream;
import java.nio.file.Files;
import java.nio.file.Path;
import java.util.regex.Matcher;
import java.util.regex.Pattern;

/** Every place of the document at which a boundary is named stands in a sentence that an Edges test says it is of. */
public final class SentencesTest {
    private static final Check check = new Check();
    private static final Pattern SAID = Pattern.compile("says\\(((?:\\s*\\+?\\s*\"[^\"]*\")+)\\s*\\)");
    private static final Pattern PIECE = Pattern.compile("\"([^\"]*)\"");
    private static final Pattern BOUNDARY = Pattern.compile("\\d+ to \\d+|one to three|at most|at least|more|fewe[rs]t?|none|NONE|"
        + "BAD|FULL|\\bNO\\b|lowest|of several|[Ee]lse|\\bcut\\b|without|empty|never|neither|first|greatest|earlier|latest|\\blast\\b|"
        + "no LOANS|nothing|DEAD");

    public static void main(String[] args) throws IOException {
        boolean[] said = new boolean[Doc.words().length()];
        try (DirectoryStream<Path> files = Files.newDirectoryStream(Path.of("src/test/java"), "Edges*Test.java")) {
            for (Path file : files) {
                markSaid(Files.readString(file), said);
            }
        }
        int begin = Doc.words().indexOf("======== 1");
        markOut(said, 0, begin);
        markOut(said, Doc.words().indexOf("## The public face"), Doc.words().indexOf("## Terms"));
        markOut(said, Doc.words().indexOf("## Not promised"), said.length);
        everyBoundary(said);
        check.finish("SentencesTest");
    }

    private static void markSaid(String source, boolean[] said) {
        Matcher call = SAID.matcher(source);
        while (call.find()) {
            StringBuilder sentence = new StringBuilder();
            Matcher piece = PIECE.matcher(call.group(1));
            while (piece.find()) {
                sentence.append(piece.group(1));
            }
            int place = Doc.placeOf(sentence.toString());
            check.due("'" + sentence + "' is found once", place >= 0 ? 1 : 0, 1);
            markOut(said, Math.max(0, place), place + sentence.length());
        }
    }

    private static void markOut(boolean[] said, int from, int to) {
        for (int place = from; place < to; place++) {
            said[place] = true;
        }
    }

    private static void everyBoundary(boolean[] said) {
        Matcher words = BOUNDARY.matcher(Doc.words());
        while (words.find()) {
            int end = Math.min(words.end() + 30, said.length);
            check.due("'" + Doc.words().substring(Math.max(0, words.start() - 60), end) + "' is said", said[words.start()] ? 1 : 0, 1);
        }
    }
}
