/** Counts the answers that are not the ones that are due, and prints each. */
final class Due {
    private int asked = 0;
    private int wrong = 0;

    void is(String call, long got, long want) {
        asked++;
        if (got != want) {
            wrong++;
            System.out.println(call + " answered " + got + ", due is " + want);
        }
    }

    void is(String call, boolean got, boolean want) {
        is(call, got ? 1 : 0, want ? 1 : 0);
    }

    /** The whole file, byte by byte. */
    void fileIs(String what, MovieBoxes x, int[]... parts) {
        int[] want = Build.join(parts);
        is(what + ": length()", x.length(), want.length);
        for (int p = 0; p < want.length; p++) {
            is(what + ": peek(" + p + ")", x.peek(p), want[p]);
        }
    }

    void end() {
        System.out.println(wrong == 0 ? "all " + asked + " answers are as due" : wrong + " of " + asked + " are not");
        if (wrong != 0 || asked == 0) {
            System.exit(1);
        }
    }
}
