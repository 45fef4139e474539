/** Counts the answers that are not the ones that are due, and prints each. */
final class Due {
    private int asked = 0;
    private int wrong = 0;
    private String sentence = "";
    private int askedBefore = 0;

    /** The answers from here on show whether this sentence of the document holds. */
    void sentence(String text) {
        endSentence();
        sentence = text;
        askedBefore = asked;
    }

    /** One of several cases of a sentence. */
    void sentence(String text, String part) {
        sentence(text + " [" + part + "]");
    }

    // A sentence without an answer would pass whatever the class did.
    private void endSentence() {
        if (!sentence.isEmpty() && asked == askedBefore) {
            wrong++;
            System.out.println("no answer shows whether this holds: " + sentence);
        }
    }

    void is(String call, long got, long want) {
        asked++;
        if (got != want) {
            wrong++;
            String where = sentence.isEmpty() ? "" : "\"" + sentence + "\": ";
            System.out.println(where + call + " answered " + got + ", due is " + want);
        }
    }

    void is(String call, boolean got, boolean want) {
        is(call, got ? 1 : 0, want ? 1 : 0);
    }

    /** The whole file, byte by byte. */
    void fileIs(String what, MovieBoxes x, int[]... parts) {
        int[] want = Build.join(parts);
        is(what + ": length()", x.length(), want.length);
        for (int p = 0; p < want.length; p++) {
            is(what + ": peek(" + p + ")", x.peek(p), want[p]);
        }
    }

    /** Moves the MOVIE of a file without a fault, and compares the answer and the whole file. */
    void moved(String what, MovieBoxes x, int want, int[]... parts) {
        is(what + ": check() before", x.check(), 0);
        is(what + ": fastStart()", x.fastStart(), want);
        fileIs(what, x, parts);
        is(what + ": check() after", x.check(), 0);
        is(what + ": fastStart() again", x.fastStart(), want);
        fileIs(what + " again", x, parts);
    }

    void end() {
        endSentence();
        System.out.println(wrong == 0 ? "all " + asked + " answers are as due" : wrong + " of " + asked + " are not");
        if (wrong != 0 || asked == 0) {
            System.exit(1);
        }
    }
}
