/** Promises 10 to 12: tracks, samples and sample. */
public final class SamplesTest {
    private static final int NONE = MovieBoxes.NONE;
    private static final Due due = new Due();

    public static void main(String[] args) {
        twoTracks();
        noSuch();
        withFault();
        manySamples();
        emptyTrack();
        widePlaces();
        afterChanges();
        due.end();
    }

    private static void sampleIs(MovieBoxes x, int track, int k, int... want) {
        for (int what = 0; what < 6; what++) {
            due.is("sample(" + track + ", " + k + ", " + what + ")", x.sample(track, k, what), want[what]);
        }
    }

    /** Data at places 2 .. 51; track 0 of six samples in four chunks, track 1 the plain one. */
    private static MovieBoxes movie() {
        int[] rich = Build.box(Build.TRACK,
            Build.table(Build.SYNCS, 2, 2, 6),
            Build.table(Build.SIZES, 0, 6, 1, 0, 5, 10, 2, 3),
            Build.table(Build.CHUNKS, 2, 1, 1, 40, 3, 2, 50),
            Build.table(Build.PLACES, 4, 30, 52, 2, 30),
            Build.table(Build.SHIFTS, 3, 1, 127, 3, 128, 2, 255),
            Build.table(Build.EDITS, 0),
            Build.table(Build.DURATIONS, 3, 2, 255, 0, 9, 4, 100));
        return Build.file(Build.box(Build.DATA, Build.same(50, 1)), Build.box(Build.MOVIE, rich, Build.plainTrack(49)));
    }

    private static void twoTracks() {
        MovieBoxes x = movie();
        due.is("check()", x.check(), 0);
        due.is("tracks()", x.tracks(), 2);
        due.is("samples(0)", x.samples(0), 6);
        due.is("samples(1)", x.samples(1), 3);
        sampleIs(x, 0, 0, 30, 1, 0, 127, 0, 40);
        sampleIs(x, 0, 1, 52, 0, 255, 127, 1, 40);
        sampleIs(x, 0, 2, 2, 5, 510, 382, 0, 50);
        sampleIs(x, 0, 3, 7, 10, 610, 482, 0, 50);
        sampleIs(x, 0, 4, 30, 2, 710, 709, 0, 50);
        sampleIs(x, 0, 5, 32, 3, 810, 809, 1, 50);
        sampleIs(x, 1, 0, 49, 1, 0, 0, 1, 7);
        sampleIs(x, 1, 1, 50, 1, 10, 10, 1, 7);
        sampleIs(x, 1, 2, 51, 1, 20, 20, 1, 7);
    }

    private static void noSuch() {
        MovieBoxes x = movie();
        int[] bad = {-1, 2, 3, Integer.MIN_VALUE, Integer.MAX_VALUE};
        for (int track : bad) {
            due.is("samples(" + track + ")", x.samples(track), NONE);
            due.is("sample(" + track + ", 0, 0)", x.sample(track, 0, 0), NONE);
        }
        int[] badSample = {-1, 3, 6, 255, 256, Integer.MIN_VALUE, Integer.MAX_VALUE};
        for (int k : badSample) {
            due.is("sample(1, " + k + ", 0)", x.sample(1, k, 0), NONE);
        }
        int[] badWhat = {-1, 6, 7, Integer.MIN_VALUE, Integer.MAX_VALUE};
        for (int what : badWhat) {
            due.is("sample(0, 0, " + what + ")", x.sample(0, 0, what), NONE);
        }
        MovieBoxes one = Build.file(Build.box(Build.DATA, Build.same(3, 1)), Build.box(Build.MOVIE, Build.plainTrack(2)));
        due.is("tracks() of one", one.tracks(), 1);
        due.is("samples(1) of one", one.samples(1), NONE);
    }

    private static void withFault() {
        MovieBoxes x = movie();
        x.append(9, 1);
        due.is("check()", x.check(), 1);
        due.is("tracks()", x.tracks(), NONE);
        due.is("samples(0)", x.samples(0), NONE);
        due.is("sample(0, 0, 0)", x.sample(0, 0, 0), NONE);
        MovieBoxes y = Build.file(Build.box(Build.DATA, Build.same(3, 1)), Build.box(Build.MOVIE, Build.plainTrack(3)));
        due.is("check()", y.check(), 6);
        due.is("tracks()", y.tracks(), NONE);
        due.is("samples(0)", y.samples(0), NONE);
        due.is("sample(0, 0, 1)", y.sample(0, 0, 1), NONE);
        due.is("shown(0, 0)", y.shown(0, 0), NONE);
    }

    private static void manySamples() {
        MovieBoxes x = Build.file(Build.longBox(Build.DATA, Build.same(510, 1)), Build.box(Build.MOVIE, Build.box(Build.TRACK,
            Build.table(Build.DURATIONS, 1, 255, 255), Build.table(Build.SHIFTS, 2, 254, 1, 1, 200),
            Build.table(Build.CHUNKS, 1, 1, 255, 255), Build.table(Build.SIZES, 2, 255), Build.table(Build.PLACES, 1, 4))));
        due.is("check()", x.check(), 0);
        due.is("samples(0)", x.samples(0), 255);
        sampleIs(x, 0, 254, 512, 2, 254 * 255, 254 * 255 - 56, 1, 255);
        due.is("shown at the last time", x.shown(0, 254 * 255 - 57 + 255), 254);
        due.is("shown behind the last time", x.shown(0, 254 * 255 - 56 + 255), NONE);
    }

    private static void emptyTrack() {
        MovieBoxes x = Build.file(Build.box(Build.MOVIE, Build.box(Build.TRACK, Build.table(Build.DURATIONS, 1, 0, 4),
            Build.table(Build.CHUNKS, 0), Build.table(Build.SIZES, 0, 0), Build.table(Build.WIDE, 0), Build.table(Build.SYNCS, 0))));
        due.is("check()", x.check(), 0);
        due.is("samples(0)", x.samples(0), 0);
        due.is("sample(0, 0, 0)", x.sample(0, 0, 0), NONE);
        due.is("shown(0, 0)", x.shown(0, 0), NONE);
    }

    private static void widePlaces() {
        MovieBoxes x = Build.file(Build.longBox(Build.DATA, Build.same(700, 1)), Build.box(Build.MOVIE, Build.box(Build.TRACK,
            Build.table(Build.DURATIONS, 1, 3, 1), Build.table(Build.CHUNKS, 3, 1, 1, 1, 2, 1, 2, 3, 1, 3),
            Build.table(Build.SIZES, 9, 3), Build.table(Build.WIDE, 3, 2, 1, 0, 255, 0, 4), Build.table(Build.SYNCS, 0))));
        due.is("check()", x.check(), 0);
        sampleIs(x, 0, 0, 513, 9, 0, 0, 0, 1);
        sampleIs(x, 0, 1, 255, 9, 1, 1, 0, 2);
        sampleIs(x, 0, 2, 4, 9, 2, 2, 0, 3);
    }

    private static void afterChanges() {
        MovieBoxes x = movie();
        due.is("sample(1, 0, 0)", x.sample(1, 0, 0), 49);
        int last = x.length() - 1;
        due.is("poke", x.poke(last, 40), 49);
        due.is("sample(1, 0, 0) after a poke", x.sample(1, 0, 0), 40);
        due.is("a refused poke", x.poke(last, 256), NONE);
        due.is("a refused cut", x.cut(last + 2), false);
        due.is("a refused append", x.append(1, 9), MovieBoxes.BAD);
        due.is("sample(1, 2, 0) after refusals", x.sample(1, 2, 0), 42);
        due.is("cut", x.cut(last), true);
        due.is("tracks() after a cut", x.tracks(), NONE);
        due.is("append", x.append(41, 1), last + 1);
        due.is("sample(1, 0, 0) after an append", x.sample(1, 0, 0), 41);
        due.is("sample(0, 5, 5) after an append", x.sample(0, 5, 5), 50);
    }
}
