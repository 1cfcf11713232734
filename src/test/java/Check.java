import java.io.IOException;
import java.nio.file.Files;
import java.nio.file.Path;

/** Compares answers with those that are due, and ends the run with 1 if one was wrong. */
final class Check {
    static final long BAD = Long.MIN_VALUE + 2, NOT = Long.MIN_VALUE + 3;
    private static final Path DOCUMENT = Path.of("../shared/DOC.md");
    private final String document = document();
    private String sentence = "";
    private int wrong;

    /** What follows tests these words of the document: they must stand there, word by word. */
    void sentence(String words) {
        sentence = "\"" + words + "\": ";
        due("the document has these words", document.isEmpty() || document.contains(words) ? 1 : 0, 1);
    }

    void due(String call, long got, long want) {
        if (got != want) {
            wrong++;
            System.out.println(sentence + call + " answered " + got + ", due is " + want);
        }
    }

    void same(String call, String got, String want) {
        if (!got.equals(want)) {
            wrong++;
            System.out.println(sentence + call + " left\n  " + got + "\n due is\n  " + want);
        }
    }

    /** Both parts of a fraction. */
    void fraction(String call, long above, long below, long wantAbove, long wantBelow) {
        due(call + " above", above, wantAbove);
        due(call + " below", below, wantBelow);
    }

    void end() {
        if (wrong != 0) {
            System.out.println(wrong + " answers are not as due");
            System.exit(1);
        }
    }

    /** Empty, if the document is not at hand: the answers can be tested without it. */
    private static String document() {
        try {
            return Files.isReadable(DOCUMENT) ? Files.readString(DOCUMENT) : "";
        } catch (IOException e) {
            return "";
        }
    }
}
