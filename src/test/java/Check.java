/** Counts the answers that are not as due; a test ends with finish(). */
final class Check {
    private static int wrong = 0;
    private static int asked = 0;
    private static String held = "";

    private Check() { }

    /** Names the promise and the sentence of the document that the answers from here on hold. */
    static void holds(int promise, String sentence) {
        held = "promise " + promise + ", '" + sentence + "': ";
        Quotes.add(promise, sentence);
    }

    static void holdsNone() {
        held = "";
    }

    static void due(String call, long got, long want) {
        asked++;
        if (got != want) {
            wrong++;
            System.out.println(held + call + " answered " + got + ", due is " + want);
        }
    }

    /** Two looks at what is to be alike. */
    static void same(String what, String got, String want) {
        asked++;
        if (!got.equals(want)) {
            wrong++;
            System.out.println(held + what + "\n  is  " + got + "\n  due " + want);
        }
    }

    static void finish() {
        System.out.println(asked + " answers, " + wrong + " not as due");
        if (wrong != 0 || asked == 0) {
            System.exit(1);
        }
    }

    /** A new object with that text written, not laid. */
    static DonkeyVerdicts written(String text) {
        DonkeyVerdicts x = new DonkeyVerdicts();
        rewrite(x, text);
        return x;
    }

    static void rewrite(DonkeyVerdicts x, String text) {
        x.wipe();
        for (int i = 0; i < text.length(); i++) {
            due("write in " + text, x.write(text.charAt(i)), i + 1);
        }
    }

    /** A new object whose court is that of the text. */
    static DonkeyVerdicts laid(String text) {
        DonkeyVerdicts x = written(text);
        if (x.lay() < 1) {
            due("lay of " + text, DonkeyVerdicts.NO, 1);
        }
        return x;
    }

    /** Of a beast: MOOD, what it does, PLACE, to which PLACE, HOURS, DOOR. */
    static void beast(String when, DonkeyVerdicts x, int b, int... want) {
        for (int i = 0; i < want.length; i++) {
            due(when + ": beast(" + b + ", " + (i + 2) + ")", x.beast(b, i + 2), want[i]);
        }
    }
}
