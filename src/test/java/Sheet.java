import java.io.IOException;
import java.nio.file.Files;
import java.nio.file.Path;

/**
 * What the edge tests share: each check stands under a sentence of the document,
 * quoted word for word, so that a sentence that changes is found here.
 */
final class Sheet {
    static final int NONE = -1, UNKNOWN = -1001, OUTSIDE = -1002, NOT = -1003, FULL = -1004;
    static final String DOCUMENT = "../shared/DOC.md";

    final String document;
    private String sentence = "";
    private int checksOfSentence = 1;
    private int sentences;
    private int checks;
    private int wrong;

    Sheet() throws IOException {
        document = Files.readString(Path.of(DOCUMENT)).replaceAll("\\s+", " ");
    }

    /** The checks that follow are of this sentence. */
    void says(String quote) {
        expect(checksOfSentence > 0, "no check stands under it");
        sentence = quote;
        sentences++;
        checksOfSentence = 0;
        if (!document.contains(quote)) {
            expect(false, "the document does not say so");
        }
    }

    void due(String call, int got, int want) {
        expect(got == want, call + " answered " + got + ", due is " + want);
    }

    void expect(boolean good, String otherwise) {
        checks++;
        checksOfSentence++;
        if (!good) {
            wrong++;
            System.out.println("<" + sentence + ">: " + otherwise);
        }
    }

    /** Tells how it went; the exit code is 1 if a check went wrong. */
    void end() {
        expect(checksOfSentence > 0, "no check stands under it");
        System.out.println(checks + " checks of " + sentences + " sentences, " + wrong + " wrong");
        if (wrong != 0) {
            System.exit(1);
        }
    }
}
