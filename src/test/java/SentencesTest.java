import java.io.IOException;
import java.nio.file.Files;
import java.nio.file.Path;
import java.util.List;

/**
 * Each sentence of the document that names a boundary case has a test of its own, which quotes it; no
 * sentence of 'Terms' and of the promises is without one.
 */
public final class SentencesTest {
    private static final Path DOCUMENT = Path.of("../shared/DOC.md");
    private static final int PROMISES = 30;

    private SentencesTest() {
    }

    public static void main(String[] args) throws IOException {
        Checks checks = new Checks();
        Document document = Files.exists(DOCUMENT) ? new Document(Files.readString(DOCUMENT)) : null;
        List<Bench> parts = List.of(
                new TermsOfRiver(checks, document), new TermsOfTexts(checks, document), new TermsOfWays(checks, document),
                new PromisesOfRiver(checks, document), new PromisesOfWays(checks, document),
                new PromisesOfBest(checks, document), new PromisesOfHost(checks, document));
        for (Bench part : parts) {
            part.all();
        }
        if (document != null) {
            allQuoted(checks, document);
        }
        checks.end();
    }

    private static void allQuoted(Checks checks, Document document) {
        checks.begin("the document");
        checkQuoted(checks, document, "Terms");
        for (int promise = 1; promise <= PROMISES; promise++) {
            checkQuoted(checks, document, "Promise " + promise);
        }
    }

    private static void checkQuoted(Checks checks, Document document, String section) {
        checks.holds("there is the section " + section, document.sections().contains(section));
        for (String words : document.unquoted(section)) {
            checks.holds(section + " has words without a test: " + words, false);
        }
    }
}
