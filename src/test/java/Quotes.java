import java.io.IOException;
import java.nio.file.Files;
import java.nio.file.Path;
import java.util.SortedMap;
import java.util.TreeMap;

/** The sentences of the document that tests have named, by promise. */
final class Quotes {
    private static final Path DOCUMENT = Path.of("..", "shared", "DOC.md");
    private static final SortedMap<Integer, Integer> NAMED = new TreeMap<>();
    private static final StringBuilder UNFOUND = new StringBuilder();
    private static final String TEXT = read();

    private Quotes() { }

    private static String read() {
        try {
            return Files.readString(DOCUMENT);
        } catch (IOException e) {
            System.out.println(DOCUMENT + " can not be read: sentences are not looked up");
            return "";
        }
    }

    static void add(int promise, String sentence) {
        NAMED.merge(promise, 1, Integer::sum);
        if (!TEXT.isEmpty() && !TEXT.contains(sentence)) {
            UNFOUND.append("\n  ").append(promise).append(": ").append(sentence);
        }
    }

    /** Each promise has a sentence named, and each sentence is the document's own. */
    static void check() {
        Check.holdsNone();
        for (int promise = 1; promise <= 31; promise++) {
            Check.due("promise " + promise + " is named", NAMED.containsKey(promise) ? 1 : 0, 1);
        }
        Check.same("sentences that the document has not", UNFOUND.toString(), "");
    }
}
