import java.io.IOException;
import java.nio.file.Files;
import java.nio.file.Path;

/** Compares answers with those that are due and tells at the end whether all were right. */
final class Checks {
    private static final Path DOCUMENT = Path.of("..", "shared", "DOC.md");

    private final String name;
    private final String document = readDocument();
    private String sentence = "";
    private int madeOfSentence = 1;
    private int made = 0;
    private int wrong = 0;

    Checks(String name) {
        this.name = name;
    }

    /** What follows, up to the next sentence, checks these words of the document. */
    void sentence(String words) {
        endSentence();
        sentence = words;
        madeOfSentence = 0;
        if (!document.isEmpty() && !document.contains(words)) {
            tellWrong("the document does not say: " + words);
        }
    }

    void due(String call, long got, long want) {
        made++;
        madeOfSentence++;
        if (got != want) {
            tellWrong(call + " answered " + got + ", due is " + want);
        }
    }

    void yes(String call, boolean got) {
        due(call, got ? 1 : 0, 1);
    }

    void no(String call, boolean got) {
        due(call, got ? 1 : 0, 0);
    }

    void end() {
        endSentence();
        System.out.println(name + ": " + made + " checks, " + wrong + " wrong");
        if (wrong != 0 || made == 0) {
            System.exit(1);
        }
    }

    private void endSentence() {
        if (madeOfSentence == 0) {
            tellWrong("nothing was checked of: " + sentence);
        }
    }

    private void tellWrong(String what) {
        wrong++;
        System.out.println(name + ": " + what + (sentence.isEmpty() ? "" : "   [" + sentence + "]"));
    }

    // Without the document the words go unchecked, for then the answers can be checked all the same.
    private static String readDocument() {
        try {
            return Files.isReadable(DOCUMENT) ? Files.readString(DOCUMENT) : "";
        } catch (IOException e) {
            return "";
        }
    }
}
