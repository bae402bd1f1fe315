import java.util.SortedMap;
import java.util.TreeMap;

/** The sentences of the document that tests have named, by promise. */
final class Quotes {
    private static final SortedMap<Integer, Integer> NAMED = new TreeMap<>();
    private static final StringBuilder UNFOUND = new StringBuilder();
    private static final boolean[] HELD = Document.aside();

    private Quotes() { }

    static void add(int promise, String sentence) {
        NAMED.merge(promise, 1, Integer::sum);
        int at = Document.TEXT.indexOf(sentence);
        if (Document.isThere() && at < 0) {
            UNFOUND.append("\n  ").append(promise).append(": ").append(sentence);
        }
        while (at >= 0) {
            for (int i = at; i < at + sentence.length(); i++) {
                HELD[i] = true;
            }
            at = Document.TEXT.indexOf(sentence, at + 1);
        }
    }

    /** Each promise has a sentence named, each sentence is the document's own, and the document has no other. */
    static void check() {
        Check.holdsNone();
        for (int promise = 1; promise <= 31; promise++) {
            Check.due("promise " + promise + " is named", NAMED.containsKey(promise) ? 1 : 0, 1);
        }
        Check.same("sentences that the document has not", UNFOUND.toString(), "");
        Check.same("words of the document that no test names", unheld(), "");
    }

    private static String unheld() {
        StringBuilder rest = new StringBuilder();
        for (int i = 0; i < HELD.length; i++) {
            char sign = Document.TEXT.charAt(i);
            if (!HELD[i] && Character.isLetterOrDigit(sign)) {
                if (rest.length() > 0 && !Character.isLetterOrDigit(Document.TEXT.charAt(i - 1))) {
                    rest.append(' ');
                }
                rest.append(sign);
            }
        }
        return rest.toString();
    }
}
