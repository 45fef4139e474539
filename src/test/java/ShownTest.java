/** Promise 13: shown. */
public final class ShownTest {
    private static final int NONE = MovieBoxes.NONE;
    private static final Due due = new Due();

    public static void main(String[] args) {
        withoutEdits();
        withShifts();
        overlapping();
        withEdits();
        noEditRows();
        refused();
        due.end();
    }

    /** A track of four samples without bytes, lasting 10, 0, 5 and 5, with these tables more. */
    private static MovieBoxes movie(int[]... more) {
        return Build.file(Build.box(Build.DATA), Build.box(Build.MOVIE, Build.box(Build.TRACK,
            Build.table(Build.DURATIONS, 3, 1, 10, 1, 0, 2, 5), Build.table(Build.CHUNKS, 1, 1, 4, 1),
            Build.table(Build.SIZES, 0, 4, 0, 0, 0, 0), Build.table(Build.PLACES, 1, 2), Build.join(more))));
    }

    private static void shownIs(MovieBoxes x, int t, int want) {
        due.is("shown(0, " + t + ")", x.shown(0, t), want);
    }

    private static void withoutEdits() {
        MovieBoxes x = movie();
        due.is("check()", x.check(), 0);
        shownIs(x, 0, 0);
        shownIs(x, 9, 0);
        shownIs(x, 10, 2);
        shownIs(x, 14, 2);
        shownIs(x, 15, 3);
        shownIs(x, 19, 3);
        shownIs(x, 20, NONE);
        shownIs(x, Integer.MAX_VALUE, NONE);
        shownIs(x, -1, NONE);
        shownIs(x, Integer.MIN_VALUE, NONE);
    }

    private static void withShifts() {
        // The composition times are 3, 0 (of the sample that lasts 0), 30 and -3.
        MovieBoxes x = movie(Build.table(Build.SHIFTS, 4, 1, 3, 1, 246, 1, 20, 1, 238));
        due.is("sample(0, 3, 3)", x.sample(0, 3, 3), -3);
        shownIs(x, 0, 3);
        shownIs(x, 1, 3);
        shownIs(x, 2, NONE);
        shownIs(x, 3, 0);
        shownIs(x, 12, 0);
        shownIs(x, 13, NONE);
        shownIs(x, 29, NONE);
        shownIs(x, 30, 2);
        shownIs(x, 34, 2);
        shownIs(x, 35, NONE);
        shownIs(x, -1, NONE);
        shownIs(x, -3, NONE);
    }

    private static void overlapping() {
        // Sample 3 begins at 6, within sample 0.
        MovieBoxes x = movie(Build.table(Build.SHIFTS, 2, 3, 0, 1, 247));
        shownIs(x, 5, 0);
        shownIs(x, 6, 0);
        shownIs(x, 9, 0);
        shownIs(x, 10, 2);
        shownIs(x, 15, NONE);
    }

    private static void withEdits() {
        MovieBoxes x = movie(Build.table(Build.EDITS, 5, 3, 255, 4, 8, 0, 1, 2, 254, 6, 16));
        shownIs(x, 0, NONE);
        shownIs(x, 2, NONE);
        shownIs(x, 3, 0);
        shownIs(x, 4, 0);
        shownIs(x, 5, 2);
        shownIs(x, 6, 2);
        shownIs(x, 7, NONE);
        shownIs(x, 8, NONE);
        shownIs(x, 9, 3);
        shownIs(x, 12, 3);
        shownIs(x, 13, NONE);
        shownIs(x, 15, NONE);
        shownIs(x, Integer.MAX_VALUE, NONE);
        MovieBoxes again = movie(Build.table(Build.EDITS, 2, 1, 0, 1, 0));
        shownIs(again, 0, 0);
        shownIs(again, 1, 0);
        shownIs(again, 2, NONE);
        // At the media time 254 + 1 there is media: 255 means none only as the row's own.
        MovieBoxes late = Build.file(Build.box(Build.DATA), Build.box(Build.MOVIE, Build.box(Build.TRACK,
            Build.table(Build.DURATIONS, 1, 2, 255), Build.table(Build.CHUNKS, 1, 1, 2, 1), Build.table(Build.SIZES, 0, 2, 0, 0),
            Build.table(Build.PLACES, 1, 2), Build.table(Build.EDITS, 1, 255, 254))));
        shownIs(late, 0, 0);
        shownIs(late, 1, 1);
        shownIs(late, 254, 1);
        shownIs(late, 255, NONE);
    }

    private static void noEditRows() {
        MovieBoxes x = movie(Build.table(Build.EDITS, 0));
        due.is("check()", x.check(), 0);
        shownIs(x, 0, NONE);
        shownIs(x, 5, NONE);
    }

    private static void refused() {
        MovieBoxes x = movie();
        int[] bad = {-1, 1, 2, Integer.MIN_VALUE, Integer.MAX_VALUE};
        for (int track : bad) {
            due.is("shown(" + track + ", 0)", x.shown(track, 0), NONE);
        }
        x.append(0, 1);
        due.is("shown(0, 0) with a fault", x.shown(0, 0), NONE);
    }
}
