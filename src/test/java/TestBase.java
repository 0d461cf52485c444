import java.io.IOException;
import java.io.UncheckedIOException;
import java.nio.file.Files;
import java.nio.file.Path;

/** What the tests of the promises share: plays made quickly, and answers held against the due ones. */
abstract class TestBase {
    static final int LOW = Integer.MIN_VALUE, HIGH = Integer.MAX_VALUE;
    static final Checks C = new Checks();
    private static final Path DOC = Path.of("../shared/DOC.md");
    private static String sentence = "";
    private static String document = "";

    /** The words of the document that the answers below are about; they must stand there. */
    static void says(int promise, String words) {
        C.holds("the document has the words: " + words, document().contains(words));
        sentence = "promise " + promise + " (" + words + ") ";
    }

    private static String document() {
        if (document.isEmpty()) {
            try {
                document = Files.readString(DOC).replaceAll("\\s+", " ");
            } catch (IOException e) {
                throw new UncheckedIOException(e);
            }
        }
        return document;
    }

    static void due(String call, long got, long want) {
        C.due(sentence + call, got, want);
    }

    static int law(WhoPrompts x, int which, String text) {
        for (int k = 0; k < text.length(); k++) {
            x.feed(text.charAt(k));
        }
        return x.law(which);
    }

    /** Lines without facts, each of 1 second, told by their pcl. */
    static WhoPrompts play(int... pcls) {
        WhoPrompts x = new WhoPrompts();
        for (int pcl : pcls) {
            x.line(pcl, 1, 0);
        }
        return x;
    }

    /** So many lines of PART 0, each of which goes on on the word with which each ends. */
    static WhoPrompts alike(int lines) {
        return play(new int[lines]);
    }

    static void row(WhoPrompts x, int shelf, int sort, int... elements) {
        x.row(shelf, sort, elements.length);
        for (int k = 0; k < elements.length; k++) {
            x.put(shelf, k, elements[k]);
        }
    }

    static void bytes(WhoPrompts x, int shelf, int... elements) {
        row(x, shelf, 0, elements);
    }

    static void shorts(WhoPrompts x, int shelf, int... elements) {
        row(x, shelf, 1, elements);
    }
}
