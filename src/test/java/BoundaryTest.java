import java.io.IOException;
import java.nio.file.Path;

/**
 * The boundary cases: every sentence of the document that names one has a test of its own, under src/test/boundary.
 * Each test names its promise and quotes its sentence; a quote that the document does not hold is a fault, and so is
 * a range or an exception of the document that no test quotes. It is run from the project's root.
 */
public final class BoundaryTest {
    private static final Path DOCUMENT = Path.of("../shared/DOC.md");

    public static void main(String[] args) throws IOException {
        Suite suite = new Suite(new Document(DOCUMENT));
        Sentences[] groups = {new PledgeSentences(suite), new InterestSentences(suite), new AuctionSentences(suite),
            new AccountSentences(suite), new ProgramSentences(suite), new UndoSentences(suite)};
        for (Sentences group : groups) {
            group.all();
        }
        suite.checkThatNothingIsLeftOut();
        if (!suite.report()) {
            System.exit(1);
        }
    }
}
