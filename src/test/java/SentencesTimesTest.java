/** What the document says of TIMES, of refused calls and of the constants: each sentence with an edge has a test. */
public final class SentencesTimesTest {
    private static final int NONE = MovieBoxes.NONE;
    private static final Due due = new Due();

    public static void main(String[] args) {
        decodeTime();
        compositionTime();
        editsTakeTimes();
        mediaTimeOfARow();
        mediaTime255();
        behindTheLastRow();
        withoutEdits();
        refusedAppendsPokesAndCuts();
        refusedQuestions();
        refusedFastStarts();
        none();
        bad();
        full();
        due.end();
    }

    private static void shownIs(MovieBoxes x, int t, int want) {
        due.is("shown(0, " + t + ")", x.shown(0, t), want);
    }

    private static void valuesAre(MovieBoxes x, int what, int... want) {
        for (int k = 0; k < want.length; k++) {
            due.is("sample(0, " + k + ", " + what + ")", x.sample(0, k, what), want[k]);
        }
    }

    private static void decodeTime() {
        due.sentence("Sample k's DECODE TIME is the durations of the samples before it together");
        valuesAre(Tables.plain().file(), 2, 0, 10, 20);
        valuesAre(Tables.plain().with(Build.DURATIONS, 3, 1, 0, 1, 255, 1, 255).file(), 2, 0, 0, 255);
        valuesAre(Tables.plain().with(Build.DURATIONS, 2, 2, 255, 1, 1).file(), 2, 0, 255, 510);
        due.is("the greatest", Tables.bare(255, 255).file().sample(0, 254, 2), 254 * 255);
        valuesAre(Tables.plain().with(Build.SHIFTS, 1, 3, 9).file(), 2, 0, 10, 20);
    }

    private static void compositionTime() {
        due.sentence("its COMPOSITION TIME is that plus its shift (0 without SHIFTS)");
        valuesAre(Tables.plain().file(), 3, 0, 10, 20);
        valuesAre(Tables.plain().with(Build.SHIFTS, 3, 1, 128, 1, 127, 1, 255).file(), 3, -128, 137, 19);
        due.is("the greatest", Tables.bare(255, 255).with(Build.SHIFTS, 1, 255, 127).file().sample(0, 254, 3), 254 * 255 + 127);
        MovieBoxes two = Build.file(Build.box(Build.DATA, Build.counting(8)), Build.box(Build.MOVIE,
            Tables.plain().with(Build.SHIFTS, 1, 3, 50).track(), Tables.plain().track()));
        due.is("in the track without shifts", two.sample(1, 2, 3), 20);
    }

    private static void editsTakeTimes() {
        due.sentence("EDITS: the rows in order take the times 0, 1, .. of the movie, each as many as its duration");
        MovieBoxes x = Tables.plain().with(Build.EDITS, 4, 1, 20, 0, 10, 2, 0, 1, 10).file();
        shownIs(x, 0, 2);
        shownIs(x, 1, 0);
        shownIs(x, 2, 0);
        shownIs(x, 3, 1);
        shownIs(x, 4, NONE);
        MovieBoxes y = Tables.bare(2, 255).with(Build.EDITS, 2, 255, 0, 255, 254).file();
        shownIs(y, 254, 0);
        shownIs(y, 255, 0);
        shownIs(y, 256, 1);
        shownIs(y, 509, 1);
        shownIs(y, 510, NONE);
    }

    private static void mediaTimeOfARow() {
        due.sentence("at the j-th (from 0) of them the MEDIA TIME is the row's media time plus j");
        MovieBoxes x = Tables.plain().with(Build.EDITS, 2, 3, 9, 3, 18).file();
        shownIs(x, 0, 0);
        shownIs(x, 1, 1);
        shownIs(x, 2, 1);
        shownIs(x, 3, 1);
        shownIs(x, 4, 1);
        shownIs(x, 5, 2);
        // From 254 on the media times 255, 256, .. come in turn, without a wrap-around.
        MovieBoxes late = Tables.bare(3, 128).with(Build.EDITS, 1, 255, 254).file();
        shownIs(late, 0, 1);
        shownIs(late, 1, 1);
        shownIs(late, 2, 2);
        shownIs(late, 129, 2);
        shownIs(late, 130, NONE);
    }

    private static void mediaTime255() {
        due.sentence("but none at all if the row's media time is 255");
        MovieBoxes x = Tables.bare(3, 255).with(Build.EDITS, 3, 2, 254, 2, 255, 1, 0).file();
        shownIs(x, 0, 0);
        shownIs(x, 1, 1);
        shownIs(x, 2, NONE);
        shownIs(x, 3, NONE);
        shownIs(x, 4, 0);
        shownIs(Tables.bare(3, 255).with(Build.EDITS, 2, 0, 255, 1, 5).file(), 0, 0);
    }

    private static void behindTheLastRow() {
        due.sentence("Behind the last row there is none either.");
        MovieBoxes x = Tables.bare(3, 255).with(Build.EDITS, 1, 2, 0).file();
        shownIs(x, 1, 0);
        shownIs(x, 2, NONE);
        shownIs(x, 3, NONE);
        shownIs(x, 600, NONE);
        shownIs(x, Integer.MAX_VALUE, NONE);
        MovieBoxes last = Build.file(Build.box(Build.DATA, Build.counting(8)), Build.box(Build.MOVIE,
            Tables.plain().with(Build.EDITS, 1, 2, 0).track(Build.bytes(9, 0, 9, 0, 9, 0, 9, 0, 9))));
        shownIs(last, 1, 0);
        shownIs(last, 2, NONE);
        shownIs(Tables.plain().with(Build.EDITS, 0).file(), 0, NONE);
        shownIs(Tables.plain().with(Build.EDITS, 1, 0, 0).file(), 0, NONE);
    }

    private static void withoutEdits() {
        due.sentence("Without a table EDITS the media time is the movie's time itself.");
        MovieBoxes x = Tables.bare(255, 255).file();
        shownIs(x, 0, 0);
        shownIs(x, 254, 0);
        shownIs(x, 255, 1);
        shownIs(x, 256, 1);
        shownIs(x, 65024, 254);
        shownIs(x, 65025, NONE);
        shownIs(x, 65536, NONE);
        shownIs(x, Integer.MAX_VALUE, NONE);
    }

    private static int[] bytesOf(MovieBoxes x) {
        int[] bytes = new int[x.length()];
        for (int p = 0; p < bytes.length; p++) {
            bytes[p] = x.peek(p);
        }
        return bytes;
    }

    /** The bytes are those from before, and the answers are those of a new object with these bytes. */
    private static void unchanged(String what, MovieBoxes x, int[] before) {
        due.fileIs(what, x, before);
        MovieBoxes fresh = Build.file(before);
        due.is(what + ": check()", x.check(), fresh.check());
        due.is(what + ": boxes()", x.boxes(), fresh.boxes());
        for (int k = 0; k < 20; k++) {
            due.is(what + ": box(" + k + ", 0)", x.box(k, 0), fresh.box(k, 0));
        }
        due.is(what + ": tracks()", x.tracks(), fresh.tracks());
        due.is(what + ": sample(0, 2, 0)", x.sample(0, 2, 0), fresh.sample(0, 2, 0));
        due.is(what + ": shown(0, 15)", x.shown(0, 15), fresh.shown(0, 15));
    }

    private static void refusedAppendsPokesAndCuts() {
        due.sentence("A call that is refused changes nothing.", "append, poke and cut");
        MovieBoxes x = Tables.plain().file();
        int[] before = bytesOf(x);
        int[] noNumber = {0, 9, -1, 1000, Integer.MIN_VALUE, Integer.MAX_VALUE};
        for (int n : noNumber) {
            due.is("append(7, " + n + ")", x.append(7, n), MovieBoxes.BAD);
            unchanged("append(7, " + n + ")", x, before);
        }
        int[] noPlace = {-1, before.length, 1000, Integer.MIN_VALUE, Integer.MAX_VALUE};
        for (int p : noPlace) {
            due.is("poke(" + p + ", 7)", x.poke(p, 7), NONE);
            unchanged("poke(" + p + ", 7)", x, before);
        }
        int[] noByte = {-1, 256, 300, Integer.MIN_VALUE, Integer.MAX_VALUE};
        for (int b : noByte) {
            due.is("poke(3, " + b + ")", x.poke(3, b), NONE);
            unchanged("poke(3, " + b + ")", x, before);
        }
        int[] noLength = {-1, before.length + 1, 1000, Integer.MIN_VALUE, Integer.MAX_VALUE};
        for (int n : noLength) {
            due.is("cut(" + n + ")", x.cut(n), false);
            unchanged("cut(" + n + ")", x, before);
        }
        MovieBoxes most = Tables.plain().file(Build.longBox(Build.FREE, Build.counting(960)));
        int[] bytes = bytesOf(most);
        for (int n = 4; n <= 8; n++) {
            due.is("append(-1, " + n + ") at 997", most.append(-1L, n), MovieBoxes.FULL);
            unchanged("append(-1, " + n + ") at 997", most, bytes);
        }
    }

    private static void refusedQuestions() {
        due.sentence("A call that is refused changes nothing.", "questions");
        MovieBoxes x = Tables.plain().file();
        int[] before = bytesOf(x);
        int[] wrong = {-1, 20, 255, 1000, Integer.MIN_VALUE, Integer.MAX_VALUE};
        for (int i : wrong) {
            x.peek(i);
            x.box(i, 0);
            x.box(0, i);
            x.samples(i);
            x.sample(i, 0, 0);
            x.sample(0, i, 0);
            x.sample(0, 0, i);
            x.shown(i, 0);
            x.shown(0, -1);
            unchanged("questions with " + i, x, before);
        }
    }

    private static void refusedFastStarts() {
        due.sentence("A call that is refused changes nothing.", "fastStart");
        int[] movie = Tables.plain().movie();
        int[] media = Build.box(Build.DATA, Build.counting(8));
        int[][] files = {Build.join(media, movie, Build.bytes(2)), Build.join(media, movie, Build.empties(14)),
            Build.join(media, movie, movie), Build.join(media, Tables.plain().with(Build.SYNCS, 1, 0).movie()),
            Build.join(media, Tables.plain().with(Build.SYNCS, 1, 4).movie()),
            Build.join(media, Tables.plain().with(Build.PLACES, 1, 8).movie())};
        for (int i = 0; i < files.length; i++) {
            MovieBoxes x = Build.file(files[i]);
            due.is("check()", x.check(), i + 1);
            due.is("fastStart() with the fault " + (i + 1), x.fastStart(), MovieBoxes.BAD);
            unchanged("fastStart() with the fault " + (i + 1), x, files[i]);
        }
        int[] most = Build.join(Build.box(Build.DATA, Build.counting(240)), Tables.plain().with(Build.PLACES, 1, 233).movie(),
            Build.longBox(Build.FREE, Build.counting(731)));
        MovieBoxes full = Build.file(most);
        due.is("fastStart() of 1000 that would grow", full.fastStart(), MovieBoxes.FULL);
        unchanged("fastStart() of 1000 that would grow", full, most);
    }

    private static void none() {
        due.sentence("NONE = -1000: The answer where there is nothing.");
        MovieBoxes x = new MovieBoxes();
        due.is("peek(0)", x.peek(0), -1000);
        due.is("poke(0, 0)", x.poke(0, 0), -1000);
        due.is("box(0, 0)", x.box(0, 0), -1000);
        due.is("tracks()", x.tracks(), -1000);
        due.is("samples(0)", x.samples(0), -1000);
        due.is("sample(0, 0, 0)", x.sample(0, 0, 0), -1000);
        due.is("shown(0, 0)", x.shown(0, 0), -1000);
        due.is("boxes() with a fault", Build.file(Build.bytes(9)).boxes(), -1000);
    }

    private static void bad() {
        due.sentence("BAD = -1: A call that is refused because of its arguments or because of a fault.");
        due.is("append(0, 0)", new MovieBoxes().append(0, 0), -1);
        due.is("fastStart()", new MovieBoxes().fastStart(), -1);
    }

    private static void full() {
        due.sentence("FULL = -2: A call that is refused because the file would be longer than 1000 bytes.");
        MovieBoxes x = Build.file(Build.same(1000, 0));
        due.is("append(0, 1)", x.append(0, 1), -2);
    }
}
