/** Promise 14: each sentence with an edge has a test. */
public final class SentencesFastStartTest {
    private static final int[] FREE = Build.box(Build.FREE, Build.bytes(1, 77, 0, 68));
    private static final Due due = new Due();

    public static void main(String[] args) {
        directlyBeforeTheFirstData();
        othersKeepOrderAndBytes();
        placesOfAllChunks();
        chunksBesideTheMovie();
        oneObjectMovesTwice();
        theSameBytes();
        becomesWide();
        wideStaysWide();
        headersKeepTheirLengths();
        tableHeaderGrows();
        trackHeaderGrows();
        movieHeaderGrows();
        openMovie();
        theRestStays();
        growthMovesFurther();
        fewestWideTables();
        answersTheLength();
        nothingChanges();
        bad();
        full();
        due.end();
    }

    private static int[] data(int n) {
        return Build.fit(Build.DATA, Build.counting(n));
    }

    private static int[] track(int place) {
        return Tables.plain().with(Build.PLACES, 1, place).track();
    }

    private static int[] wideTrack(int place) {
        return Tables.plain().with(Build.WIDE, 1, place / 256, place % 256).track();
    }

    private static int[] movie(int[]... tracks) {
        return Build.fit(Build.MOVIE, tracks);
    }

    private static int[] filler(int size) {
        return Build.fit(Build.FREE, Build.counting(size - (size > 255 ? 4 : 2)));
    }

    private static void directlyBeforeTheFirstData() {
        due.sentence("Moves the MOVIE to directly before the first DATA box, if it lies behind it");
        due.moved("directly behind", Build.file(data(3), movie(track(2))), 23, movie(track(25)), data(3));
        due.moved("a box between", Build.file(data(3), FREE, movie(track(2))), 23, movie(track(25)), data(3), FREE);
        due.moved("a box in front", Build.file(FREE, data(3), movie(track(8))), 23, FREE, movie(track(31)), data(3));
        due.moved("two boxes in front", Build.file(FREE, FREE, data(3), movie(track(14))), 23, FREE, FREE, movie(track(37)), data(3));
        due.moved("two data boxes", Build.file(data(3), data(4), movie(track(7))), 23, movie(track(30)), data(3), data(4));
        due.moved("between data boxes", Build.file(data(3), movie(track(2)), data(4)), 23, movie(track(25)), data(3), data(4));
        due.moved("empty data first", Build.file(data(0), FREE, data(3), movie(track(10))), 23, movie(track(33)), data(0), FREE, data(3));
        due.moved("data in other boxes is none", Build.file(Build.box(Build.FREE, data(3)), data(3), movie(track(9))), 23,
            Build.box(Build.FREE, data(3)), movie(track(32)), data(3));
    }

    private static void othersKeepOrderAndBytes() {
        due.sentence("all other boxes of the top level keep their order and their bytes");
        int[] a = Build.longBox(Build.TRACK, track(2));
        int[] b = Build.table(Build.PLACES, 1, 2);
        int[] c = Build.longBox(Build.DATA, Build.same(2, 7));
        int[] open = Build.openBox(Build.FREE, track(2));
        due.moved("many others", Build.file(b, data(3), a, FREE, movie(track(6)), c, b, open), 23,
            b, movie(track(29)), data(3), a, FREE, c, b, open);
        due.moved("an open data box last", Build.file(data(3), movie(track(2)), Build.openBox(Build.DATA, Build.counting(5))), 23,
            movie(track(25)), data(3), Build.openBox(Build.DATA, Build.counting(5)));
        due.moved("an open box of nothing last", Build.file(data(3), movie(track(2)), Build.openBox(Build.FREE)), 23,
            movie(track(25)), data(3), Build.openBox(Build.FREE));
    }

    private static void placesOfAllChunks() {
        due.sentence("In the MOVIE the places of all chunks become where the same bytes lie then (a chunk moves as the DATA "
            + "box in which it lies)");
        Tables three = Tables.plain().with(Build.CHUNKS, 1, 1, 1, 7);
        due.moved("all rows", Build.file(data(9), three.with(Build.PLACES, 3, 2, 10, 5).movie()), 25,
            three.with(Build.PLACES, 3, 27, 35, 30).movie(), data(9));
        due.moved("all rows, wide", Build.file(data(9), three.with(Build.WIDE, 3, 0, 2, 0, 10, 0, 5).movie()), 28,
            three.with(Build.WIDE, 3, 0, 30, 0, 38, 0, 33).movie(), data(9));
        due.moved("both tracks", Build.file(data(9), movie(track(2), track(8))), 44, movie(track(46), track(52)), data(9));
        // The data boxes are at 0, 5 and 37; the movie at 14 leaves the third where it is.
        due.moved("before and behind the movie", Build.file(data(3), data(7), three.with(Build.PLACES, 3, 2, 7, 41).movie(), data(3)),
            25, three.with(Build.PLACES, 3, 27, 32, 41).movie(), data(3), data(7), data(3));
        due.moved("boxes without a chunk", Build.file(data(3), Tables.ofNothing().movie()), 17, Tables.ofNothing().movie(), data(3));
    }

    private static void chunksBesideTheMovie() {
        due.sentence("(a chunk moves as the DATA box in which it lies)", "a chunk without bytes");
        Tables bare = Tables.bare(1, 1);
        due.moved("at the end of the data before the movie", Build.file(data(3), bare.with(Build.PLACES, 1, 5).movie(), data(3)), 24,
            bare.with(Build.PLACES, 1, 29).movie(), data(3), data(3));
        due.moved("at the start of the data behind the movie", Build.file(data(3), bare.with(Build.PLACES, 1, 31).movie(), data(3)), 24,
            bare.with(Build.PLACES, 1, 31).movie(), data(3), data(3));
        due.moved("at the end of the data behind the movie", Build.file(data(3), bare.with(Build.PLACES, 1, 34).movie(), data(3)), 24,
            bare.with(Build.PLACES, 1, 34).movie(), data(3), data(3));
        due.moved("at the end of the first of two", Build.file(data(3), data(3), bare.with(Build.PLACES, 1, 5).movie()), 24,
            bare.with(Build.PLACES, 1, 29).movie(), data(3), data(3));
        due.moved("in data without bytes", Build.file(data(0), bare.with(Build.PLACES, 1, 2).movie()), 24,
            bare.with(Build.PLACES, 1, 26).movie(), data(0));
    }

    private static MovieBoxes refilled(MovieBoxes x, int[]... parts) {
        x.cut(0);
        for (int b : Build.join(parts)) {
            x.append(b, 1);
        }
        return x;
    }

    private static void oneObjectMovesTwice() {
        due.sentence("Moves the MOVIE to directly before the first DATA box", "a second time, another file");
        MovieBoxes x = Build.file(data(250), movie(track(240), track(240)));
        due.is("fastStart()", x.fastStart(), 46);
        due.moved("tables that stay narrow", refilled(x, data(3), movie(track(2), track(2))), 44, movie(track(46), track(46)), data(3));
        due.moved("one that becomes wide", refilled(x, data(250), movie(track(240), track(2))), 45,
            movie(wideTrack(285), track(47)), data(250));
        due.is("a third that is refused", refilled(x, data(250), movie(track(240)), filler(725)).fastStart(), MovieBoxes.FULL);
        x.poke(274, 2);
        due.is("check()", x.check(), 0);
        due.moved("once it needs no more room", x, 23, movie(track(25)), data(250), filler(725));
    }

    private static void theSameBytes() {
        due.sentence("the places of all chunks become where the same bytes lie then");
        Tables three = Tables.plain().with(Build.CHUNKS, 1, 1, 1, 7);
        MovieBoxes x = Build.file(data(240), three.with(Build.WIDE, 3, 0, 2, 0, 241, 1, 22).movie(), data(9));
        int[] before = new int[3];
        for (int k = 0; k < 3; k++) {
            before[k] = x.peek(x.sample(0, k, 0));
        }
        due.is("fastStart()", x.fastStart(), 28);
        for (int k = 0; k < 3; k++) {
            due.is("the byte of sample " + k, x.peek(x.sample(0, k, 0)), before[k]);
        }
        due.is("the bytes differ", before[0] != before[1] && before[1] != before[2] && before[0] != before[2], true);
    }

    private static void becomesWide() {
        due.sentence("A table PLACES of which a new place is greater than 255 becomes WIDE PLACES (its type too)");
        due.moved("254", Build.file(data(250), movie(track(231))), 23, movie(track(254)), data(250));
        due.moved("255", Build.file(data(250), movie(track(232))), 23, movie(track(255)), data(250));
        due.moved("256 and then 257", Build.file(data(250), movie(track(233))), 24, movie(wideTrack(257)), data(250));
        due.moved("no place but a byte behind the table", Build.file(data(3), movie(track(2), filler(120))), 143,
            movie(track(145), filler(120)), data(3));
        due.moved("the greatest", Build.file(data(253), movie(track(252))), 24, movie(wideTrack(276)), data(253));
        MovieBoxes x = Build.file(data(250), movie(track(233)));
        x.fastStart();
        due.is("its type", x.box(5, 2), 79);
        due.is("its length", x.box(5, 1), 5);
        Tables three = Tables.plain().with(Build.CHUNKS, 1, 1, 1, 7);
        due.moved("for the first row alone", Build.file(data(250), three.with(Build.PLACES, 3, 240, 2, 3).movie()), 28,
            three.with(Build.WIDE, 3, 1, 12, 0, 30, 0, 31).movie(), data(250));
        due.moved("for the last row alone", Build.file(data(250), three.with(Build.PLACES, 3, 2, 3, 240).movie()), 28,
            three.with(Build.WIDE, 3, 0, 30, 0, 31, 1, 12).movie(), data(250));
        due.moved("the first table alone", Build.file(data(250), movie(track(240), track(2))), 45,
            movie(wideTrack(285), track(47)), data(250));
        due.moved("the second table alone", Build.file(data(250), movie(track(2), track(240))), 45,
            movie(track(47), wideTrack(285)), data(250));
        due.moved("a table of no rows", Build.file(data(250), movie(Tables.ofNothing().track(), track(240))), 39,
            movie(Tables.ofNothing().track(), wideTrack(279)), data(250));
    }

    private static void wideStaysWide() {
        due.sentence("a table that is WIDE PLACES stays so");
        due.moved("with a place of one byte", Build.file(data(3), movie(wideTrack(2))), 24, movie(wideTrack(26)), data(3));
        due.moved("up to 255", Build.file(data(250), movie(wideTrack(231))), 24, movie(wideTrack(255)), data(250));
        due.moved("from 255 to 256", Build.file(data(250), movie(wideTrack(232))), 24, movie(wideTrack(256)), data(250));
        due.moved("from 256 on", Build.file(data(400), movie(wideTrack(300))), 24, movie(wideTrack(324)), data(400));
        int[] none = Tables.ofNothing().with(Build.WIDE, 0).movie();
        due.moved("without rows", Build.file(data(3), none), 17, none, data(3));
    }

    private static int[] longMovie(int type, int... places) {
        return Build.longBox(Build.MOVIE, Build.longBox(Build.FREE), Build.longBox(Build.TRACK,
            Build.longBox(Build.DURATIONS, Build.bytes(1, 3, 10)), Build.longBox(Build.CHUNKS, Build.bytes(1, 1, 3, 7)),
            Build.longBox(Build.SIZES, Build.bytes(1, 3)), Build.longBox(type, places)));
    }

    private static void headersKeepTheirLengths() {
        due.sentence("The MOVIE and what it holds keep their headers' lengths");
        due.moved("of four each", Build.file(data(3), longMovie(Build.PLACES, 1, 2)), 39, longMovie(Build.PLACES, 1, 41), data(3));
        due.moved("of four each, a table becomes wide", Build.file(data(240), longMovie(Build.PLACES, 1, 230)), 40,
            longMovie(Build.WIDE, 1, 1, 14), data(240));
        due.moved("of four each, a table is wide", Build.file(data(3), longMovie(Build.WIDE, 1, 0, 2)), 40,
            longMovie(Build.WIDE, 1, 0, 42), data(3));
        int[] mixed = Build.box(Build.MOVIE, Build.longBox(Build.TRACK, Build.plainTables(2)));
        due.moved("of two and of four", Build.file(data(3), mixed), 25,
            Build.box(Build.MOVIE, Build.longBox(Build.TRACK, Build.plainTables(27))), data(3));
        due.moved("a movie of four around two", Build.file(data(3), Build.longBox(Build.MOVIE, track(2))), 25,
            Build.longBox(Build.MOVIE, track(27)), data(3));
    }

    /** n chunks of one sample of one byte, all at one place. */
    private static Tables chunks(int n, int place) {
        int[] rows = Build.join(Build.bytes(n), Build.same(n, place));
        return Tables.bare(n, 1).with(Build.SIZES, 1, n).with(Build.CHUNKS, 1, 1, 1, 1).with(Build.PLACES, rows);
    }

    private static Tables wideChunks(int n, int place) {
        int[] rows = Build.bytes(n);
        for (int i = 0; i < n; i++) {
            rows = Build.join(rows, Build.bytes(place / 256, place % 256));
        }
        return chunks(n, place).with(Build.WIDE, rows);
    }

    private static void tableHeaderGrows() {
        due.sentence("a header of two bytes becomes one of four where the box would be longer than 255 with it", "a table");
        // 126 wide rows make a table of 255 bytes, 127 one of 257, and of 259 with the longer header.
        due.moved("255", Build.file(data(210), chunks(126, 200).movie()), 278, wideChunks(126, 478).movie(), data(210));
        MovieBoxes just = Build.file(data(210), chunks(126, 200).movie());
        just.fastStart();
        due.is("its length", just.box(5, 1), 255);
        due.is("its header", just.box(5, 3), 2);
        due.moved("257", Build.file(data(210), chunks(127, 200).movie()), 282, wideChunks(127, 482).movie(), data(210));
        MovieBoxes more = Build.file(data(210), chunks(127, 200).movie());
        more.fastStart();
        due.is("its length then", more.box(5, 1), 259);
        due.is("its header then", more.box(5, 3), 4);
        due.moved("a table that was wide and long", Build.file(data(210), wideChunks(127, 200).movie()), 282,
            wideChunks(127, 482).movie(), data(210));
    }

    /** A track with a free box that makes it this long with a header of two bytes. */
    private static int[] padded(Tables tables, int length) {
        int plain = tables.track().length;
        return tables.track(filler(length - plain));
    }

    private static void trackHeaderGrows() {
        due.sentence("a header of two bytes becomes one of four where the box would be longer than 255 with it", "a TRACK");
        int[] places = Build.bytes(1, 2);
        Tables narrow = Tables.plain().with(Build.PLACES, places);
        Tables wide = Tables.plain().with(Build.WIDE, 1, 1, 5);
        int[] pad = filler(233);
        due.moved("from 254 to 255", Build.file(data(3), Build.longBox(Build.MOVIE, narrow.track(pad))), 259,
            Build.longBox(Build.MOVIE, wide.track(pad)), data(3));
        MovieBoxes x = Build.file(data(3), Build.longBox(Build.MOVIE, narrow.track(pad)));
        x.fastStart();
        due.is("its length", x.box(1, 1), 255);
        due.is("its header", x.box(1, 3), 2);
        int[] more = filler(234);
        Tables further = Tables.plain().with(Build.WIDE, 1, 1, 8);
        due.moved("from 255 to 256 and then 258", Build.file(data(3), Build.longBox(Build.MOVIE, narrow.track(more))), 262,
            Build.longBox(Build.MOVIE, further.track(more)), data(3));
        MovieBoxes y = Build.file(data(3), Build.longBox(Build.MOVIE, narrow.track(more)));
        y.fastStart();
        due.is("its length then", y.box(1, 1), 258);
        due.is("its header then", y.box(1, 3), 4);
    }

    private static void movieHeaderGrows() {
        due.sentence("a header of two bytes becomes one of four where the box would be longer than 255 with it", "the MOVIE");
        due.moved("from 254 to 255", Build.file(data(3), movie(track(2), filler(231))), 255, movie(wideTrack(257), filler(231)), data(3));
        due.moved("from 255 to 256 and then 258", Build.file(data(3), movie(track(2), filler(232))), 258,
            movie(wideTrack(260), filler(232)), data(3));
        MovieBoxes x = Build.file(data(3), movie(track(2), filler(232)));
        due.is("its header before", x.box(1, 3), 2);
        x.fastStart();
        due.is("its header then", x.box(0, 3), 4);
        due.is("its track's header then", x.box(1, 3), 2);
        due.moved("255 that does not grow", Build.file(data(3), movie(wideTrack(2), filler(231))), 255,
            movie(wideTrack(257), filler(231)), data(3));
        due.moved("for its track's sake", Build.file(data(3), movie(padded(Tables.plain(), 253))), 258,
            movie(padded(Tables.plain().with(Build.WIDE, 1, 1, 4), 254)), data(3));
        due.moved("for both tracks' sake", Build.file(data(3), movie(track(2), track(2), filler(210))), 258,
            movie(wideTrack(260), wideTrack(260), filler(210)), data(3));
    }

    private static void openMovie() {
        due.sentence("a MOVIE with n = 0 has a header of two bytes with its length if that is at most 255, else of four");
        due.moved("23", Build.file(data(3), Build.openBox(Build.MOVIE, track(2))), 23, movie(track(25)), data(3));
        due.moved("255", Build.file(data(3), Build.openBox(Build.MOVIE, wideTrack(2), filler(231))), 255,
            Build.box(Build.MOVIE, wideTrack(257), filler(231)), data(3));
        due.moved("256 and then 258", Build.file(data(3), Build.openBox(Build.MOVIE, wideTrack(2), filler(232))), 258,
            Build.longBox(Build.MOVIE, wideTrack(260), filler(232)), data(3));
        due.moved("255 with a table that becomes wide", Build.file(data(3), Build.openBox(Build.MOVIE, track(2), filler(231))), 255,
            Build.box(Build.MOVIE, wideTrack(257), filler(231)), data(3));
        due.moved("258 with a table that becomes wide", Build.file(data(3), Build.openBox(Build.MOVIE, track(2), filler(232))), 258,
            Build.longBox(Build.MOVIE, wideTrack(260), filler(232)), data(3));
        due.moved("much longer", Build.file(data(3), Build.openBox(Build.MOVIE, wideTrack(2), filler(600))), 626,
            Build.longBox(Build.MOVIE, wideTrack(628), filler(600)), data(3));
    }

    private static void theRestStays() {
        due.sentence("All the rest of the MOVIE's bytes stay as they are.");
        int[] rest = Build.join(Build.table(Build.PLACES, 1, 2), Build.longBox(Build.MOVIE, track(2)), Build.box(Build.DATA,
            Build.bytes(2)), Build.table(Build.WIDE, 1, 0, 2));
        int[] inTrack = Build.join(Build.table(Build.SHIFTS, 1, 3, 2), Build.table(Build.SYNCS, 1, 2), Build.table(Build.EDITS, 1, 2, 2),
            Build.box(Build.TRACK, Build.plainTables(2)), Build.box(Build.MOVIE, Build.bytes(2)));
        due.moved("others in the movie and in the track", Build.file(data(3),
            movie(rest, Build.box(Build.TRACK, Build.plainTables(2), inTrack), rest)), 135,
            movie(rest, Build.box(Build.TRACK, Build.plainTables(137), inTrack), rest), data(3));
        due.moved("the order of the tables", Build.file(data(3), movie(Build.box(Build.TRACK, Build.table(Build.PLACES, 1, 2),
            Build.table(Build.SIZES, 1, 3), Build.table(Build.CHUNKS, 1, 1, 3, 7), Build.table(Build.DURATIONS, 1, 3, 10)))), 23,
            movie(Build.box(Build.TRACK, Build.table(Build.PLACES, 1, 25), Build.table(Build.SIZES, 1, 3),
                Build.table(Build.CHUNKS, 1, 1, 3, 7), Build.table(Build.DURATIONS, 1, 3, 10))), data(3));
    }

    private static void growthMovesFurther() {
        due.sentence("(What grows here moves the data further");
        due.moved("the second table for the first's sake", Build.file(data(250), movie(track(240), track(211))), 46,
            movie(wideTrack(286), wideTrack(257)), data(250));
        due.moved("the first table for the second's sake", Build.file(data(250), movie(track(211), track(240))), 46,
            movie(wideTrack(257), wideTrack(286)), data(250));
        // The ten rows of the first table make the movie 63 bytes long, so that 193 becomes 256.
        int[] many = chunks(10, 240).track();
        due.moved("a table for ten rows' sake", Build.file(data(250), movie(many, track(193))), 64,
            movie(wideChunks(10, 304).track(), wideTrack(257)), data(250));
        due.moved("data behind the movie", Build.file(data(240), movie(track(233), wideTrack(289)), data(3)), 46,
            movie(wideTrack(279), wideTrack(290)), data(240), data(3));
        due.moved("data behind a movie with a longer header",
            Build.file(data(3), movie(track(2), wideTrack(262), filler(210)), data(3)), 258,
            movie(wideTrack(260), wideTrack(265), filler(210)), data(3), data(3));
    }

    private static void fewestWideTables() {
        due.sentence("the outcome is the one with the fewest tables that became WIDE PLACES.)");
        due.moved("none, where one would do too", Build.file(data(250), movie(track(232))), 23, movie(track(255)), data(250));
        due.moved("none, where two would do too", Build.file(data(250), movie(track(211), track(211))), 44,
            movie(track(255), track(255)), data(250));
        due.moved("the first, where both would do too", Build.file(data(250), movie(track(240), track(210))), 45,
            movie(wideTrack(285), track(255)), data(250));
        due.moved("the second, where both would do too", Build.file(data(250), movie(track(210), track(240))), 45,
            movie(track(255), wideTrack(285)), data(250));
        due.moved("none, where one of ten rows would do too", Build.file(data(250), chunks(10, 223).movie()), 32,
            chunks(10, 255).movie(), data(250));
    }

    private static void answersTheLength() {
        due.sentence("Answers the length of the MOVIE as it is afterwards");
        due.is("the same length", Build.file(data(3), movie(track(2))).fastStart(), 23);
        due.is("a wide table more", Build.file(data(250), movie(track(240))).fastStart(), 24);
        due.is("a longer header more", Build.file(data(3), movie(track(2), filler(232))).fastStart(), 258);
        due.is("an open movie", Build.file(data(3), Build.openBox(Build.MOVIE, track(2))).fastStart(), 23);
        MovieBoxes x = Build.file(FREE, data(250), movie(track(240)));
        due.is("behind a box", x.fastStart(), 24);
        due.is("the length of the movie", x.box(1, 1), 24);
    }

    private static void nothingChanges() {
        due.sentence("also if there is no DATA box or the MOVIE lies before the first already, when nothing changes");
        int[] nothing = Tables.ofNothing().track();
        due.moved("no data", Build.file(FREE, movie(nothing), FREE), 17, FREE, movie(nothing), FREE);
        int[] open = Build.openBox(Build.MOVIE, nothing);
        due.moved("no data, an open movie", Build.file(FREE, open), 17, FREE, open);
        int[] longOne = Build.openBox(Build.MOVIE, nothing, filler(300));
        due.moved("no data, an open movie that is long", Build.file(FREE, longOne), 317, FREE, longOne);
        due.moved("before the data", Build.file(movie(track(25)), data(3)), 23, movie(track(25)), data(3));
        due.moved("well before the data", Build.file(movie(track(31)), FREE, data(3)), 23, movie(track(31)), FREE, data(3));
        due.moved("behind a box, before the data", Build.file(FREE, movie(track(31)), data(3)), 23, FREE, movie(track(31)), data(3));
        due.moved("data in other boxes alone", Build.file(Build.box(Build.FREE, data(3)), movie(nothing, data(3))), 22,
            Build.box(Build.FREE, data(3)), movie(nothing, data(3)));
        due.moved("1000 bytes", Build.file(movie(track(25)), data(3), filler(972)), 23, movie(track(25)), data(3), filler(972));
        due.moved("a long movie", Build.file(longMovie(Build.PLACES, 1, 41), data(3)), 39, longMovie(Build.PLACES, 1, 41), data(3));
    }

    private static void refused(int fault, int[]... parts) {
        MovieBoxes x = Build.file(parts);
        due.is("check()", x.check(), fault);
        due.is("fastStart() with the fault " + fault, x.fastStart(), MovieBoxes.BAD);
        due.fileIs("with the fault " + fault, x, parts);
    }

    private static void bad() {
        due.sentence("BAD if the file has a fault");
        int[] good = movie(track(2));
        refused(1, data(3), good, Build.bytes(2));
        refused(2, data(3), good, Build.empties(14));
        refused(3, data(3), good, good);
        refused(3, data(3));
        refused(3);
        refused(4, data(3), Tables.plain().with(Build.SYNCS, 1, 0).movie());
        refused(5, data(3), Tables.plain().with(Build.SYNCS, 1, 4).movie());
        refused(6, data(3), movie(track(3)));
        refused(6, movie(track(2)));
        refused(6, movie(track(24)), data(3));
    }

    private static void isFull(String what, int[]... parts) {
        MovieBoxes x = Build.file(parts);
        due.is(what + ": check() before", x.check(), 0);
        due.is(what + ": fastStart()", x.fastStart(), MovieBoxes.FULL);
        due.fileIs(what, x, parts);
        due.is(what + ": check() after", x.check(), 0);
        due.is(what + ": fastStart() again", x.fastStart(), MovieBoxes.FULL);
    }

    private static void full() {
        due.sentence("FULL if it would be longer than 1000.");
        due.moved("1000 as before", Build.file(data(250), movie(track(2)), filler(725)), 23, movie(track(25)), data(250), filler(725));
        due.moved("from 999 to 1000", Build.file(data(250), movie(track(240)), filler(724)), 24,
            movie(wideTrack(264)), data(250), filler(724));
        isFull("from 1000 to 1001", data(250), movie(track(240)), filler(725));
        int[] open = Build.openBox(Build.MOVIE, wideTrack(2), filler(300));
        due.moved("an open movie, from 998 to 1000", Build.file(data(3), filler(669), open), 326,
            Build.longBox(Build.MOVIE, wideTrack(328), filler(300)), data(3), filler(669));
        isFull("an open movie, from 999 to 1001", data(3), filler(670), open);
        isFull("an open movie, from 1000 to 1002", data(3), filler(671), open);
        isFull("a longer header, from 998 to 1001", data(3), movie(track(2), filler(232)), filler(738));
        due.moved("a longer header, from 997 to 1000", Build.file(data(3), movie(track(2), filler(232)), filler(737)), 258,
            movie(wideTrack(260), filler(232)), data(3), filler(737));
        isFull("many rows", data(210), chunks(200, 200).movie(), filler(600 - 48));
    }
}
