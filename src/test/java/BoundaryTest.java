import java.io.IOException;
import java.nio.file.Files;
import java.nio.file.Path;

/**
 * Runs src/test/boundaries.txt: sentences of the document, each with its calls and the answers that it asks for.
 * Each sentence has to stand in the document, and each sentence of the document has to stand there.
 */
public final class BoundaryTest {
    private static final Path CASES = Path.of("src/test/boundaries.txt");
    private static final Path DOCUMENT = Path.of("../shared/DOC.md");
    private static final String NO_BOUNDARY = "(no boundary)";

    private final Document document;
    private String section = "";
    private String sentence = "";
    private Script script = null;
    private boolean isTested = true;

    private BoundaryTest(Document document) {
        this.document = document;
    }

    public static void main(String[] args) throws IOException, ReflectiveOperationException {
        BoundaryTest test = new BoundaryTest(new Document(DOCUMENT));
        for (String line : Files.readAllLines(CASES)) {
            test.line(line.strip());
        }
        test.endSentence();
        test.document.dueAllQuoted();
        Checks.end();
    }

    private void line(String line) throws ReflectiveOperationException {
        if (line.startsWith("== ")) {
            section = line.substring(3);
        } else if (line.startsWith("> ")) {
            beginSentence(line.substring(2));
        } else if (line.equals("--")) {
            script = new Script(section + " | " + sentence);
        } else if (line.equals(NO_BOUNDARY)) {
            isTested = true;
        } else if (!line.isEmpty() && script != null) {
            script.line(line);
            isTested = true;
        }
    }

    private void beginSentence(String words) {
        endSentence();
        sentence = words;
        document.quote(section, sentence);
        script = new Script(section + " | " + sentence);
        isTested = false;
    }

    private void endSentence() {
        Checks.holds(section + " | " + sentence + " | has its calls", isTested);
    }
}
