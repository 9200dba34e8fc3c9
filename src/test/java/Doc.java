import java.io.IOException;
import java.nio.file.Files;
import java.nio.file.Path;

/** A check whose answers stand under the sentence of the document that asks for them. */
final class Doc {
    private static final Path PLACE = Path.of("../shared/DOC.md");

    private final Check check;
    private final String document;
    private String sentence = "";

    Doc(String name) {
        check = new Check(name);
        document = read();
    }

    /** Where only the tests are at hand, the words can't be held against the document. */
    private static String read() {
        try {
            return Files.exists(PLACE) ? Files.readString(PLACE) : "";
        } catch (IOException e) {
            return "";
        }
    }

    /** What is due from here on is due by these words; they must be the document's own. */
    void says(String words) {
        sentence = words;
        check.holds("the document says \"" + words + "\"", document.isEmpty() || document.contains(words));
    }

    void due(String call, long got, long want) {
        check.due("\"" + sentence + "\": " + call, got, want);
    }

    void end() {
        check.end();
    }
}
