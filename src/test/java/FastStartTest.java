/** Promise 14: fastStart. */
public final class FastStartTest {
    private static final int[] THREE = Build.bytes(1, 2, 3);
    private static final Due due = new Due();

    public static void main(String[] args) {
        plainMove();
        nothingToMove();
        otherBoxesKeepTheirOrder();
        dataBehindTheMovie();
        emptyChunkBesideTheMovie();
        edgeOfOneByte();
        twoTablesBecomeWide();
        wideStaysWide();
        tableHeaderGrows();
        trackAndMovieHeadersGrow();
        longHeadersStay();
        openMovie();
        openBoxStaysLast();
        otherBytesOfTheMovieStay();
        full();
        faults();
        due.end();
    }

    private static int[] movie(int place) {
        return Build.box(Build.MOVIE, Build.plainTrack(place));
    }

    private static int[] wideTrack(int place) {
        return Build.box(Build.TRACK, Build.table(Build.DURATIONS, 1, 3, 10), Build.table(Build.CHUNKS, 1, 1, 3, 7),
            Build.table(Build.SIZES, 1, 3), Build.table(Build.WIDE, 1, place / 256, place % 256));
    }

    private static int[] data(int n) {
        return Build.box(Build.DATA, Build.counting(n));
    }

    private static void plainMove() {
        MovieBoxes x = Build.file(data(3), movie(2));
        due.moved("plain", x, 23, movie(25), data(3));
        due.is("sample(0, 1, 0)", x.sample(0, 1, 0), 26);
        due.is("box(6, 2)", x.box(6, 2), Build.DATA);
    }

    private static void nothingToMove() {
        int[] free = Build.box(Build.FREE, THREE);
        due.moved("the movie is first", Build.file(movie(25), data(3)), 23, movie(25), data(3));
        due.moved("a box between", Build.file(movie(30), free, data(3)), 23, movie(30), free, data(3));
        int[] empty = Build.box(Build.TRACK, Build.table(Build.DURATIONS, 0), Build.table(Build.CHUNKS, 0),
            Build.table(Build.SIZES, 0, 0), Build.table(Build.PLACES, 0));
        due.moved("no data", Build.file(free, Build.box(Build.MOVIE, empty)), 17, free, Build.box(Build.MOVIE, empty));
        due.moved("no data, open", Build.file(free, Build.openBox(Build.MOVIE, empty)), 17, free, Build.openBox(Build.MOVIE, empty));
    }

    private static void otherBoxesKeepTheirOrder() {
        int[] a = Build.box(1, Build.bytes(65));
        int[] b = Build.longBox(2, Build.bytes(66));
        int[] c = Build.box(Build.TRACK, Build.bytes(67));
        int[] first = Build.longBox(Build.DATA, THREE);
        int[] second = Build.box(Build.DATA, Build.bytes(9));
        due.moved("among others", Build.file(a, first, b, second, movie(7), c), 23, a, movie(30), first, b, second, c);
    }

    private static void dataBehindTheMovie() {
        int[] second = Build.box(Build.DATA, Build.bytes(4, 5, 6));
        MovieBoxes x = Build.file(data(3), Build.box(Build.MOVIE, Build.plainTrack(2), Build.plainTrack(51)), second);
        due.moved("data behind", x, 44, Build.box(Build.MOVIE, Build.plainTrack(46), Build.plainTrack(51)), data(3), second);
        due.is("sample(1, 0, 0)", x.sample(1, 0, 0), 51);
        due.moved("data behind a movie that grows by one",
            Build.file(data(230), Build.box(Build.MOVIE, Build.plainTrack(229), wideTrack(279)), second), 46,
            Build.box(Build.MOVIE, wideTrack(229 + 46), wideTrack(280)), data(230), second);
    }

    private static int[] emptyChunk(int place) {
        return Build.box(Build.MOVIE, Build.box(Build.TRACK, Build.table(Build.DURATIONS, 1, 1, 1), Build.table(Build.CHUNKS, 1, 1, 1, 1),
            Build.table(Build.SIZES, 0, 1, 0), Build.table(Build.PLACES, 1, place)));
    }

    private static void emptyChunkBesideTheMovie() {
        int[] behind = Build.box(Build.DATA);
        due.moved("a chunk at the end of the data before", Build.file(data(1), emptyChunk(3), behind), 24, emptyChunk(27), data(1), behind);
        due.moved("a chunk at the start of the data behind", Build.file(data(1), emptyChunk(29), behind), 24, emptyChunk(29), data(1), behind);
    }

    private static void edgeOfOneByte() {
        due.moved("a place becomes 255", Build.file(data(240), movie(232)), 23, movie(255), data(240));
        due.moved("a place becomes more", Build.file(data(240), movie(233)), 24, Build.box(Build.MOVIE, wideTrack(257)), data(240));
    }

    private static void twoTablesBecomeWide() {
        due.moved("the second for the first's sake",
            Build.file(data(250), Build.box(Build.MOVIE, Build.plainTrack(240), Build.plainTrack(211))), 46,
            Build.box(Build.MOVIE, wideTrack(286), wideTrack(257)), data(250));
        due.moved("the first for the second's sake",
            Build.file(data(250), Build.box(Build.MOVIE, Build.plainTrack(211), Build.plainTrack(240))), 46,
            Build.box(Build.MOVIE, wideTrack(257), wideTrack(286)), data(250));
        due.moved("the first alone",
            Build.file(data(250), Build.box(Build.MOVIE, Build.plainTrack(240), Build.plainTrack(210))), 45,
            Build.box(Build.MOVIE, wideTrack(285), Build.plainTrack(255)), data(250));
        due.moved("the second alone",
            Build.file(data(250), Build.box(Build.MOVIE, Build.plainTrack(210), Build.plainTrack(240))), 45,
            Build.box(Build.MOVIE, Build.plainTrack(255), wideTrack(285)), data(250));
        due.moved("none",
            Build.file(data(250), Build.box(Build.MOVIE, Build.plainTrack(211), Build.plainTrack(211))), 44,
            Build.box(Build.MOVIE, Build.plainTrack(255), Build.plainTrack(255)), data(250));
    }

    private static void wideStaysWide() {
        due.moved("wide", Build.file(data(3), Build.box(Build.MOVIE, wideTrack(2))), 24, Build.box(Build.MOVIE, wideTrack(26)), data(3));
    }

    /** What a track with n chunks of one byte each, all at one place, has before its table of places. */
    private static int[] before(int n) {
        return Build.join(Build.table(Build.DURATIONS, 1, n, 1), Build.table(Build.CHUNKS, 1, 1, 1, 1), Build.table(Build.SIZES, 1, n));
    }

    private static int[] narrowRows(int n, int place) {
        return Build.join(Build.bytes(n), Build.same(n, place));
    }

    private static int[] wideRows(int n, int place) {
        int[] rows = Build.bytes(n);
        for (int i = 0; i < n; i++) {
            rows = Build.join(rows, Build.bytes(place / 256, place % 256));
        }
        return rows;
    }

    private static void tableHeaderGrows() {
        // 130 wide rows do not fit into a short box any more, nor does what holds them.
        MovieBoxes x = Build.file(data(210),
            Build.box(Build.MOVIE, Build.box(Build.TRACK, before(130), Build.box(Build.PLACES, narrowRows(130, 200)))));
        due.moved("a table grows", x, 288,
            Build.longBox(Build.MOVIE, Build.longBox(Build.TRACK, before(130), Build.longBox(Build.WIDE, wideRows(130, 488)))), data(210));
        // 126 rows are the most that a short box can hold: 2 + 1 + 252 = 255.
        MovieBoxes y = Build.file(data(210),
            Build.box(Build.MOVIE, Build.box(Build.TRACK, before(126), Build.box(Build.PLACES, narrowRows(126, 200)))));
        due.moved("a table just fits", y, 278,
            Build.longBox(Build.MOVIE, Build.longBox(Build.TRACK, before(126), Build.box(Build.WIDE, wideRows(126, 478)))), data(210));
    }

    private static void trackAndMovieHeadersGrow() {
        // Without the free box the track has 220 bytes when its 100 places are wide.
        due.moved("neither grows", withFree(33), 255,
            Build.box(Build.MOVIE, Build.box(Build.TRACK, before(100), Build.box(Build.WIDE, wideRows(100, 455)), free(33))), data(210));
        due.moved("the movie grows", withFree(35), 259,
            Build.longBox(Build.MOVIE, Build.box(Build.TRACK, before(100), Build.box(Build.WIDE, wideRows(100, 459)), free(35))), data(210));
        due.moved("both grow", withFree(36), 262,
            Build.longBox(Build.MOVIE, Build.longBox(Build.TRACK, before(100), Build.box(Build.WIDE, wideRows(100, 462)), free(36))), data(210));
    }

    private static int[] free(int size) {
        return Build.box(Build.FREE, Build.counting(size - 2));
    }

    private static MovieBoxes withFree(int size) {
        return Build.file(data(210),
            Build.box(Build.MOVIE, Build.box(Build.TRACK, before(100), Build.box(Build.PLACES, narrowRows(100, 200)), free(size))));
    }

    private static int[] longMovie(int placesType, int... places) {
        return Build.longBox(Build.MOVIE, Build.longBox(Build.TRACK, Build.longBox(Build.DURATIONS, Build.bytes(1, 3, 10)),
            Build.longBox(Build.CHUNKS, Build.bytes(1, 1, 3, 7)), Build.longBox(Build.SIZES, Build.bytes(1, 3)),
            Build.longBox(placesType, places)), Build.longBox(Build.FREE));
    }

    private static void longHeadersStay() {
        due.moved("long headers", Build.file(data(3), longMovie(Build.PLACES, 1, 2)), 39, longMovie(Build.PLACES, 1, 41), data(3));
        due.moved("long headers of what grows", Build.file(data(240), longMovie(Build.PLACES, 1, 230)), 40,
            longMovie(Build.WIDE, 1, 1, 14), data(240));
    }

    private static void openMovie() {
        due.moved("open", Build.file(data(3), Build.openBox(Build.MOVIE, Build.plainTrack(2))), 23, movie(25), data(3));
        due.moved("open, 255 long", Build.file(data(3), Build.openBox(Build.MOVIE, wideTrack(2), free(231))), 255,
            Build.box(Build.MOVIE, wideTrack(257), free(231)), data(3));
        due.moved("open, longer", Build.file(data(3), Build.openBox(Build.MOVIE, wideTrack(2), free(232))), 258,
            Build.longBox(Build.MOVIE, wideTrack(260), free(232)), data(3));
        due.moved("open, longer for a wide table", Build.file(data(3), Build.openBox(Build.MOVIE, Build.plainTrack(2), free(232))), 258,
            Build.longBox(Build.MOVIE, wideTrack(260), free(232)), data(3));
    }

    private static void openBoxStaysLast() {
        int[] rest = Build.openBox(Build.FREE, Build.counting(9));
        due.moved("an open box", Build.file(data(3), movie(2), rest), 23, movie(25), data(3), rest);
        int[] last = Build.openBox(Build.DATA, Build.counting(9));
        due.moved("an open data box", Build.file(data(3), movie(30), last), 23, movie(30), data(3), last);
    }

    private static void otherBytesOfTheMovieStay() {
        int[] inTrack = Build.join(Build.table(Build.EDITS, 1, 5, 255), Build.box(Build.DATA, Build.bytes(2, 2)),
            Build.table(Build.SYNCS, 1, 2), Build.box(Build.TRACK, Build.plainTables(2)));
        int[] inMovie = Build.join(Build.box(Build.PLACES, Build.bytes(1, 2)), Build.longBox(Build.MOVIE, Build.plainTrack(2)));
        due.moved("others in the movie",
            Build.file(data(3), Build.box(Build.MOVIE, inMovie, Build.box(Build.TRACK, inTrack, Build.plainTables(2)))), 86,
            Build.box(Build.MOVIE, inMovie, Build.box(Build.TRACK, inTrack, Build.plainTables(88))), data(3));
    }

    private static int[] filler(int size) {
        return Build.longBox(Build.FREE, Build.counting(size - 4));
    }

    private static void full() {
        MovieBoxes x = Build.file(data(240), movie(233), filler(735));
        due.is("length()", x.length(), 1000);
        due.is("fastStart() of 1000 that would grow", x.fastStart(), MovieBoxes.FULL);
        due.fileIs("full", x, data(240), movie(233), filler(735));
        due.is("check()", x.check(), 0);
        due.is("sample(0, 0, 0)", x.sample(0, 0, 0), 233);
        due.moved("1000 that do not grow", Build.file(data(240), movie(232), filler(735)), 23, movie(255), data(240), filler(735));
        due.moved("up to 1000", Build.file(data(240), movie(233), filler(734)), 24,
            Build.box(Build.MOVIE, wideTrack(257)), data(240), filler(734));
    }

    private static void faults() {
        int[] good = movie(2);
        refused("fault 1", Build.file(data(3), good, Build.bytes(9)));
        refused("fault 2", Build.file(data(3), good, Build.join(data(0), data(0), data(0), data(0), data(0), data(0), data(0),
            data(0), data(0), data(0), data(0), data(0), data(0), data(0))));
        refused("fault 3", Build.file(data(3), good, good));
        refused("fault 4", Build.file(data(3), Build.box(Build.MOVIE, Build.box(Build.TRACK, Build.plainTables(2), Build.box(Build.SYNCS)))));
        refused("fault 5", Build.file(data(3), Build.box(Build.MOVIE, Build.box(Build.TRACK, Build.plainTables(2),
            Build.table(Build.SYNCS, 1, 4)))));
        refused("fault 6", Build.file(data(3), movie(3)));
        refused("the empty file", new MovieBoxes());
    }

    private static void refused(String what, MovieBoxes x) {
        int[] before = new int[x.length()];
        for (int p = 0; p < before.length; p++) {
            before[p] = x.peek(p);
        }
        due.is(what + ": has a fault", x.check() > 0, true);
        due.is(what + ": fastStart()", x.fastStart(), MovieBoxes.BAD);
        due.fileIs(what, x, before);
    }
}
