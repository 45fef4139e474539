/** Promises 7 to 13: each sentence with an edge has a test. */
public final class SentencesQuestionsTest {
    private static final int NONE = MovieBoxes.NONE;
    private static final int[] MEDIA = Build.box(Build.DATA, Build.counting(8));
    private static final int[] WRONG = {Integer.MIN_VALUE, -1000, -2, -1, 255, 256, 1000, Integer.MAX_VALUE};
    private static final Due due = new Due();

    public static void main(String[] args) {
        checkAsItIsNow();
        checkOfTheEmptyFile();
        numberOfBoxes();
        boxesWithFaults();
        whatOfABox();
        levelOfABox();
        holderOfABox();
        noSuchBox();
        boxWithFaults();
        numberOfTracks();
        tracksWithFaults();
        numberOfSamples();
        samplesWithFaults();
        placeOfASample();
        whatOfASample();
        noSuchSample();
        sampleWithFaults();
        leastSampleShown();
        shownWithinItsDuration();
        neverShown();
        nothingShown();
        shownRefused();
        due.end();
    }

    /** One file for each fault 1 .. 6. */
    private static MovieBoxes[] faulty() {
        int[] movie = Tables.plain().movie();
        return new MovieBoxes[] {Build.file(MEDIA, movie, Build.bytes(2)), Build.file(MEDIA, movie, Build.empties(14)),
            Build.file(MEDIA, movie, movie), Tables.plain().with(Build.SYNCS, 1, 0).file(),
            Tables.plain().with(Build.SYNCS, 1, 4).file(), Tables.plain().with(Build.PLACES, 1, 8).file()};
    }

    private static void checkAsItIsNow() {
        due.sentence("The fault of the file as it is now, 1 .. 6; 0 if it has none.");
        MovieBoxes[] files = faulty();
        for (int i = 0; i < files.length; i++) {
            due.is("check()", files[i].check(), i + 1);
            due.is("check() again", files[i].check(), i + 1);
        }
        MovieBoxes x = Tables.plain().file();
        int last = x.length() - 1;
        due.is("check() of a good file", x.check(), 0);
        x.poke(last, 1);
        due.is("check() after a poke", x.check(), 6);
        x.poke(last, 2);
        due.is("check() after a poke back", x.check(), 0);
        x.cut(last);
        due.is("check() after a cut", x.check(), 1);
        x.append(2, 1);
        due.is("check() after an append", x.check(), 0);
        x.cut(10);
        due.is("check() of the data alone", x.check(), 3);
        x.cut(9);
        due.is("check() of less", x.check(), 1);
    }

    private static void checkOfTheEmptyFile() {
        due.sentence("(The empty file has the fault 3.)");
        MovieBoxes x = new MovieBoxes();
        due.is("check()", x.check(), 3);
        x.append(0, 1);
        due.is("check() of a byte", x.check(), 1);
        x.cut(0);
        due.is("check() of the file emptied", x.check(), 3);
    }

    private static void numberOfBoxes() {
        due.sentence("The number of boxes of the file (0 of the empty one; told with the faults 3 to 6, too)");
        due.is("boxes() of the empty file", new MovieBoxes().boxes(), 0);
        due.is("boxes() without a fault", Tables.plain().file().boxes(), 7);
        int[] want = {13, 8, 8, 7};
        MovieBoxes[] files = faulty();
        for (int i = 0; i < want.length; i++) {
            due.is("boxes() with the fault " + (i + 3), files[i + 2].boxes(), want[i]);
        }
        for (int n = 1; n <= 20; n++) {
            due.is("boxes() of " + n, Build.file(Build.empties(n)).boxes(), n);
        }
    }

    private static void boxesWithFaults() {
        due.sentence("NONE if the fault is 1 or 2", "boxes");
        due.is("boxes() with the fault 1", faulty()[0].boxes(), NONE);
        due.is("boxes() with the fault 2", faulty()[1].boxes(), NONE);
        due.is("boxes() of 21", Build.file(Build.empties(21)).boxes(), NONE);
        MovieBoxes x = Build.file(Build.empties(2), Build.bytes(2));
        due.is("boxes() with a byte left", x.boxes(), NONE);
        x.cut(4);
        due.is("boxes() without it", x.boxes(), 2);
    }

    private static void whatOfABox() {
        due.sentence("Of box number k: what = 0 the place of its first byte, 1 its length, 2 its type byte, 3 the length of "
            + "its header");
        MovieBoxes x = Build.file(Build.bytes(2, 0), Build.longBox(255, Build.same(300, 0)), Build.longBox(128), Build.openBox(127,
            Build.same(400, 0)));
        int[][] want = {{0, 2, 0, 2}, {2, 304, 255, 4}, {306, 4, 128, 4}, {310, 402, 127, 2}};
        for (int k = 0; k < want.length; k++) {
            for (int what = 0; what < 4; what++) {
                due.is("box(" + k + ", " + what + ")", x.box(k, what), want[k][what]);
            }
        }
        MovieBoxes last = Build.file(Build.longBox(Build.FREE, Build.same(994, 0)), Build.bytes(2, 9));
        due.is("the place 998", last.box(1, 0), 998);
        due.is("the last of 20", Build.file(Build.empties(20)).box(19, 0), 38);
    }

    private static void levelOfABox() {
        due.sentence("4 its level (0 at the top level, 1 in a MOVIE, 2 in a TRACK)");
        MovieBoxes x = Build.file(Build.empties(1), Build.box(Build.MOVIE, Build.box(Build.TRACK, Build.empties(1),
            Build.box(Build.TRACK, Build.empties(1))), Build.empties(1)), Build.empties(1));
        int[] want = {0, 0, 1, 2, 2, 1, 0};
        due.is("boxes()", x.boxes(), want.length);
        for (int k = 0; k < want.length; k++) {
            due.is("box(" + k + ", 4)", x.box(k, 4), want[k]);
        }
    }

    private static void holderOfABox() {
        due.sentence("5 the number of the box that holds it directly, -1 at the top level");
        MovieBoxes x = Build.file(Build.box(Build.MOVIE, Build.box(Build.TRACK, Build.empties(1)), Build.box(Build.TRACK,
            Build.empties(2)), Build.empties(1)), Build.empties(1), Build.box(Build.MOVIE, Build.empties(1)), Build.bytes(0, 1));
        int[] want = {-1, 0, 1, 0, 3, 3, 0, -1, -1, 8, -1};
        due.is("boxes()", x.boxes(), want.length);
        for (int k = 0; k < want.length; k++) {
            due.is("box(" + k + ", 5)", x.box(k, 5), want[k]);
        }
    }

    private static void noSuchBox() {
        due.sentence("NONE if there is no such box, what is not 0 .. 5");
        MovieBoxes x = Build.file(Build.empties(3));
        for (int what = 0; what <= 5; what++) {
            due.is("box(2, " + what + ") is told", x.box(2, what) != NONE, true);
            due.is("box(3, " + what + ")", x.box(3, what), NONE);
            due.is("box(20, " + what + ")", x.box(20, what), NONE);
            for (int k : WRONG) {
                due.is("box(" + k + ", " + what + ")", x.box(k, what), NONE);
            }
            due.is("box(0, " + what + ") of the empty file", new MovieBoxes().box(0, what), NONE);
            due.is("box(20, " + what + ") of 20", Build.file(Build.empties(20)).box(20, what), NONE);
        }
        due.is("box(0, 6)", x.box(0, 6), NONE);
        due.is("box(0, 7)", x.box(0, 7), NONE);
        for (int what : WRONG) {
            due.is("box(0, " + what + ")", x.box(0, what), NONE);
        }
        x.cut(4);
        due.is("box(2, 0) behind a cut", x.box(2, 0), NONE);
    }

    private static void boxWithFaults() {
        due.sentence("or the fault is 1 or 2", "box");
        MovieBoxes[] files = faulty();
        for (int i = 0; i < files.length; i++) {
            for (int what = 0; what <= 5; what++) {
                due.is("box(0, " + what + ") is told with the fault " + (i + 1), files[i].box(0, what) != NONE, i >= 2);
            }
        }
        due.is("box(19, 0) of 21", Build.file(Build.empties(21)).box(19, 0), NONE);
    }

    private static void numberOfTracks() {
        due.sentence("The number of tracks");
        int[] track = Tables.plain().track();
        due.is("tracks() of one", Build.file(MEDIA, Build.box(Build.MOVIE, track)).tracks(), 1);
        due.is("tracks() of two", Build.file(MEDIA, Build.box(Build.MOVIE, track, track)).tracks(), 2);
        MovieBoxes x = Build.file(MEDIA, Build.box(Build.MOVIE, track, track));
        x.tracks();
        x.poke(x.length() - 20, 32);
        due.is("tracks() when the second is another box", x.tracks(), 1);
    }

    private static void tracksWithFaults() {
        due.sentence("NONE if the file has a fault", "tracks");
        for (MovieBoxes x : faulty()) {
            due.is("tracks() with the fault " + x.check(), x.tracks(), NONE);
        }
        due.is("tracks() of the empty file", new MovieBoxes().tracks(), NONE);
    }

    private static void numberOfSamples() {
        due.sentence("The number of samples of a track");
        MovieBoxes x = Build.file(MEDIA, Build.fit(Build.MOVIE, Tables.ofNothing().track(), Tables.bare(255, 1).track()));
        due.is("samples(0)", x.samples(0), 0);
        due.is("samples(1)", x.samples(1), 255);
        due.is("samples(0) of three", Tables.plain().file().samples(0), 3);
    }

    private static void samplesWithFaults() {
        due.sentence("NONE if the file has a fault or there is no such track", "samples");
        for (MovieBoxes x : faulty()) {
            due.is("samples(0) with the fault " + x.check(), x.samples(0), NONE);
        }
        MovieBoxes one = Tables.plain().file();
        due.is("samples(1) of one", one.samples(1), NONE);
        MovieBoxes two = Build.file(MEDIA, Build.box(Build.MOVIE, Tables.plain().track(), Tables.plain().track()));
        due.is("samples(1) of two", two.samples(1), 3);
        due.is("samples(2) of two", two.samples(2), NONE);
        for (int track : WRONG) {
            due.is("samples(" + track + ")", two.samples(track), NONE);
        }
    }

    private static void placeOfASample() {
        due.sentence("Of sample k of a track: what = 0 the place of its first byte (or where that would be, for the size 0)");
        MovieBoxes x = Tables.bare(4, 1).with(Build.SIZES, 0, 4, 0, 3, 0, 5).file();
        int[] want = {2, 2, 5, 5};
        for (int k = 0; k < want.length; k++) {
            due.is("sample(0, " + k + ", 0)", x.sample(0, k, 0), want[k]);
        }
        MovieBoxes end = Tables.bare(2, 1).with(Build.SIZES, 0, 2, 8, 0).file();
        due.is("behind the last byte of the data", end.sample(0, 1, 0), 10);
        due.is("a chunk at the end of the data", Tables.bare(2, 1).with(Build.PLACES, 1, 10).file().sample(0, 1, 0), 10);
    }

    private static void whatOfASample() {
        due.sentence("1 its size, 2 its decode time, 3 its composition time, 4 whether it is a sync sample (1 or 0), 5 its "
            + "description");
        MovieBoxes x = Tables.plain().with(Build.SIZES, 0, 3, 0, 2, 6).with(Build.DURATIONS, 2, 1, 0, 2, 255)
            .with(Build.SHIFTS, 3, 1, 128, 1, 127, 1, 0).with(Build.SYNCS, 1, 3).with(Build.PLACES, 2, 2, 4)
            .with(Build.CHUNKS, 2, 1, 2, 0, 2, 1, 255).file();
        int[][] want = {{2, 0, 0, -128, 0, 0}, {2, 2, 0, 127, 0, 0}, {4, 6, 255, 255, 1, 255}};
        for (int k = 0; k < want.length; k++) {
            for (int what = 0; what <= 5; what++) {
                due.is("sample(0, " + k + ", " + what + ")", x.sample(0, k, what), want[k][what]);
            }
        }
    }

    private static void noSuchSample() {
        due.sentence("there is no such track or sample, or what is not 0 .. 5");
        MovieBoxes x = Build.file(MEDIA, Build.box(Build.MOVIE, Tables.plain().track(), Tables.bare(5, 1).track()));
        for (int what = 0; what <= 5; what++) {
            due.is("sample(0, 2, " + what + ") is told", x.sample(0, 2, what) != NONE, true);
            due.is("sample(0, 3, " + what + ")", x.sample(0, 3, what), NONE);
            due.is("sample(1, 4, " + what + ") is told", x.sample(1, 4, what) != NONE, true);
            due.is("sample(1, 5, " + what + ")", x.sample(1, 5, what), NONE);
            due.is("sample(2, 0, " + what + ")", x.sample(2, 0, what), NONE);
            due.is("sample(1, 0, " + what + ") of one track", Tables.plain().file().sample(1, 0, what), NONE);
            due.is("sample(0, 0, " + what + ") of no sample", Tables.ofNothing().file().sample(0, 0, what), NONE);
            due.is("sample(0, 255, " + what + ") of 255", Tables.bare(255, 1).file().sample(0, 255, what), NONE);
            for (int wrong : WRONG) {
                due.is("sample(" + wrong + ", 0, " + what + ")", x.sample(wrong, 0, what), NONE);
                due.is("sample(0, " + wrong + ", " + what + ")", x.sample(0, wrong, what), NONE);
            }
        }
        due.is("sample(0, 0, 6)", x.sample(0, 0, 6), NONE);
        due.is("sample(0, 0, 7)", x.sample(0, 0, 7), NONE);
        for (int what : WRONG) {
            due.is("sample(0, 0, " + what + ")", x.sample(0, 0, what), NONE);
        }
    }

    private static void sampleWithFaults() {
        due.sentence("NONE if the file has a fault", "sample");
        for (MovieBoxes x : faulty()) {
            for (int what = 0; what <= 5; what++) {
                due.is("sample(0, 0, " + what + ") with the fault " + x.check(), x.sample(0, 0, what), NONE);
            }
        }
        MovieBoxes spoilt = Tables.plain().file();
        due.is("sample(0, 0, 0)", spoilt.sample(0, 0, 0), 2);
        spoilt.append(0, 1);
        due.is("sample(0, 0, 0) when spoilt", spoilt.sample(0, 0, 0), NONE);
    }

    private static void shownIs(MovieBoxes x, int t, int want) {
        due.is("shown(0, " + t + ")", x.shown(0, t), want);
    }

    private static void leastSampleShown() {
        due.sentence("The least number of a sample of the track that is shown at the movie's time t");
        // The samples lie at 0 .. 9, 0 .. 9 and 5 .. 14.
        MovieBoxes x = Tables.plain().with(Build.SHIFTS, 3, 1, 0, 1, 246, 1, 241).file();
        shownIs(x, 0, 0);
        shownIs(x, 9, 0);
        shownIs(x, 10, 2);
        shownIs(x, 14, 2);
        shownIs(x, 15, NONE);
        // The later a sample comes in the track, the earlier it is shown: 20 .. 29, 10 .. 19 and 0 .. 9.
        MovieBoxes y = Tables.plain().with(Build.SHIFTS, 3, 1, 20, 1, 0, 1, 236).file();
        shownIs(y, 0, 2);
        shownIs(y, 10, 1);
        shownIs(y, 20, 0);
        shownIs(Tables.bare(255, 1).file(), 254, 254);
    }

    private static void shownWithinItsDuration() {
        due.sentence("the media time u then is at least its composition time and less than that plus its duration");
        MovieBoxes x = Tables.bare(1, 4).with(Build.SHIFTS, 1, 1, 3).file();
        shownIs(x, 2, NONE);
        shownIs(x, 3, 0);
        shownIs(x, 6, 0);
        shownIs(x, 7, NONE);
        MovieBoxes early = Tables.bare(1, 130).with(Build.SHIFTS, 1, 1, 128).file();
        shownIs(early, 0, 0);
        shownIs(early, 1, 0);
        shownIs(early, 2, NONE);
        MovieBoxes gone = Tables.bare(1, 128).with(Build.SHIFTS, 1, 1, 128).file();
        shownIs(gone, 0, NONE);
        MovieBoxes edited = Tables.bare(1, 4).with(Build.SHIFTS, 1, 1, 3).with(Build.EDITS, 2, 2, 2, 2, 6).file();
        shownIs(edited, 0, NONE);
        shownIs(edited, 1, 0);
        shownIs(edited, 2, 0);
        shownIs(edited, 3, NONE);
    }

    private static void neverShown() {
        due.sentence("(one of duration 0 is never shown)");
        MovieBoxes x = Tables.plain().with(Build.DURATIONS, 3, 1, 0, 1, 1, 1, 0).file();
        shownIs(x, 0, 1);
        shownIs(x, 1, NONE);
        MovieBoxes all = Tables.bare(3, 0).file();
        shownIs(all, 0, NONE);
        shownIs(all, 1, NONE);
    }

    private static void nothingShown() {
        due.sentence("NONE if there is none or no media time", "shown");
        MovieBoxes x = Tables.plain().with(Build.EDITS, 3, 1, 255, 1, 30, 1, 29).file();
        shownIs(x, 0, NONE);
        shownIs(x, 1, NONE);
        shownIs(x, 2, 2);
        shownIs(x, 3, NONE);
        shownIs(Tables.ofNothing().file(), 0, NONE);
        shownIs(Tables.plain().file(), 29, 2);
        shownIs(Tables.plain().file(), 30, NONE);
        shownIs(Tables.plain().with(Build.SHIFTS, 1, 3, 1).file(), 0, NONE);
    }

    private static void shownRefused() {
        due.sentence("t is less than 0, the file has a fault or there is no such track");
        MovieBoxes x = Tables.plain().with(Build.SHIFTS, 1, 3, 128).with(Build.DURATIONS, 1, 3, 100).file();
        shownIs(x, 0, 1);
        for (int t : new int[] {-1, -2, -28, -100, -128, -1000, Integer.MIN_VALUE}) {
            shownIs(x, t, NONE);
            due.is("shown(0, " + t + ") with edits", Tables.plain().with(Build.EDITS, 1, 255, 5).file().shown(0, t), NONE);
        }
        for (MovieBoxes faulty : faulty()) {
            due.is("shown(0, 0) with the fault " + faulty.check(), faulty.shown(0, 0), NONE);
        }
        due.is("shown(1, 0) of one track", x.shown(1, 0), NONE);
        MovieBoxes two = Build.file(MEDIA, Build.box(Build.MOVIE, Tables.plain().track(), Tables.plain().track()));
        due.is("shown(1, 0) of two tracks", two.shown(1, 0), 0);
        due.is("shown(2, 0) of two tracks", two.shown(2, 0), NONE);
        for (int track : WRONG) {
            due.is("shown(" + track + ", 0)", two.shown(track, 0), NONE);
        }
    }
}
