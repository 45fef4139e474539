/** What the document says of FAULTS: each sentence with an edge has a test. */
public final class SentencesFaultsTest {
    private static final int[] MEDIA = Build.box(Build.DATA, Build.counting(8));
    private static final int[] NEXT = Build.bytes(2, 32, 2, 32, 2, 32);
    private static final Due due = new Due();

    public static void main(String[] args) {
        readInOrder();
        twentyBoxes();
        leftIsTooShort();
        openBoxInside();
        shorterThanItsHeader();
        longerThanWhatIsLeft();
        theFirstThatHolds();
        oneMovie();
        oneOrTwoTracks();
        oneOfEach();
        placesOrWidePlaces();
        atMostOneOfEach();
        chunkLiesInData();
        chunkWithoutBytes();
        noFault();
        numberedFrom0();
        due.end();
    }

    private static void fault(String what, int want, int[]... parts) {
        due.is(what + ": check()", Build.file(parts).check(), want);
    }

    private static int[] inMovie(int[]... parts) {
        return Build.fit(Build.MOVIE, parts);
    }

    private static int[] inTrack(int[]... parts) {
        return Build.fit(Build.MOVIE, Build.fit(Build.TRACK, parts));
    }

    private static void readInOrder() {
        due.sentence("The boxes are read in the order of their numbers (what a MOVIE or TRACK holds directly after that "
            + "box's header, "
            + "before what comes behind it).");
        int[] bad = Build.bytes(9);
        fault("a bad box in the movie, 25 behind it", 1, inMovie(bad), Build.empties(25));
        fault("20 boxes in the movie, a bad one behind it", 2, inMovie(Build.empties(20)), bad);
        fault("19 boxes in the movie, a bad one behind it", 2, inMovie(Build.empties(19)), bad);
        fault("18 boxes in the movie, a bad one behind it", 1, inMovie(Build.empties(18)), bad);
        fault("a bad box in the track, 25 behind it", 1, inMovie(Build.box(Build.TRACK, bad), Build.empties(25)));
        fault("19 boxes in the track, a bad one behind it", 2, inMovie(Build.box(Build.TRACK, Build.empties(19)), bad));
        fault("17 boxes in the track, a bad one behind it", 1, inMovie(Build.box(Build.TRACK, Build.empties(17)), bad));
        fault("a bad box, then a movie of 25", 1, Build.bytes(1, 32, 0, 0), inMovie(Build.empties(25)));
    }

    private static void twentyBoxes() {
        due.sentence("Where bytes of a row of boxes are left: if 20 boxes have been read already, the reading ends with the "
            + "fault 2 (MANY)");
        fault("20", 3, Build.empties(20));
        fault("21", 2, Build.empties(21));
        fault("20 and a byte", 2, Build.empties(20), Build.bytes(0));
        fault("20 and half a long header", 2, Build.empties(20), Build.bytes(1, 32));
        fault("20 and a long box of 0", 2, Build.empties(20), Build.bytes(1, 32, 0, 0));
        fault("20 and a box that is too long", 2, Build.empties(20), Build.bytes(255, 32));
        fault("20 and an open box", 2, Build.empties(20), Build.bytes(0, 32));
        fault("19 and a byte", 1, Build.empties(19), Build.bytes(0));
        fault("19 and an open box", 3, Build.empties(19), Build.bytes(0, 32, 2, 32, 2, 32));
        fault("19 in a movie", 3, inMovie(Build.empties(19)));
        fault("20 in a movie", 2, inMovie(Build.empties(20)));
        fault("20 in a movie, the last is open", 2, inMovie(Build.empties(19), Build.bytes(0, 32)));
        fault("19 in a movie, the last is open", 1, inMovie(Build.empties(18), Build.bytes(0, 32)));
        fault("19 and an empty movie", 3, Build.empties(19), inMovie());
        fault("19 and a movie of a byte", 2, Build.empties(19), inMovie(Build.bytes(0)));
        fault("18 in a track", 3, inTrack(Build.empties(18)));
        fault("19 in a track", 2, inTrack(Build.empties(19)));
        fault("18 in a track, and a byte in the movie", 2, inMovie(Build.box(Build.TRACK, Build.empties(18)), Build.bytes(2)));
        fault("18 in a track, and a byte in the file", 2, inTrack(Build.empties(18)), Build.bytes(2));
        fault("20 in all without a fault", 0, MEDIA, Tables.plain().movie(), Build.empties(13));
        fault("21 in all without another fault", 2, MEDIA, Tables.plain().movie(), Build.empties(14));
        fault("500", 2, Build.empties(500));
    }

    private static void leftIsTooShort() {
        due.sentence("otherwise, if what is left in the holder (or file) is too short for the header");
        for (int n = 0; n < 256; n++) {
            fault("a byte " + n + " is left in the file", 1, Build.bytes(n));
            fault("a byte " + n + " is left in the movie", 1, inMovie(Build.bytes(n)), NEXT);
            fault("a byte " + n + " is left in the track", 1, inTrack(Build.bytes(n)), NEXT);
        }
        fault("two of four in the file", 1, Build.bytes(1, 32));
        fault("three of four in the file", 1, Build.bytes(1, 32, 0));
        fault("four of four in the file", 3, Build.bytes(1, 32, 0, 4));
        int[] two = Build.bytes(1, 32);
        fault("two of four in the movie", 1, inMovie(two), Build.bytes(0, 4));
        fault("three of four in the movie", 1, inMovie(two, Build.bytes(0)), Build.bytes(4, 32, 0, 0));
        fault("four of four in the movie", 3, inMovie(two, Build.bytes(0, 4)));
        fault("two of four in the track", 1, inMovie(Build.box(Build.TRACK, two), Build.bytes(4, 4, 0, 0)));
        fault("three of four in the track", 1, inMovie(Build.box(Build.TRACK, two, Build.bytes(0)), Build.bytes(4, 4, 0, 0)));
        fault("four of four in the track", 3, inTrack(two, Build.bytes(0, 4)));
    }

    private static void openBoxInside() {
        due.sentence("or n is 0 in a MOVIE or TRACK");
        fault("in a movie", 1, inMovie(Build.bytes(0, 32)));
        fault("in a movie, with bytes", 1, inMovie(Build.bytes(0, 32, 2, 32)), NEXT);
        fault("in a track", 1, inTrack(Build.bytes(0, 32)));
        fault("in a track, with bytes", 1, inTrack(Build.bytes(0, 32, 2, 32)), NEXT);
        fault("a table", 1, MEDIA, inMovie(Build.box(Build.TRACK, Build.table(Build.DURATIONS, 1, 3, 10),
            Build.table(Build.CHUNKS, 1, 1, 3, 7), Build.table(Build.SIZES, 1, 3), Build.openBox(Build.PLACES, Build.bytes(1, 2)))));
        fault("in the file", 3, Build.bytes(0, 32));
    }

    private static void shorterThanItsHeader() {
        due.sentence("or the box's length is less than its header");
        for (int length = 0; length < 4; length++) {
            int[] box = Build.bytes(1, 32, 0, length);
            fault("a long box of " + length + " in the file", 1, box, NEXT);
            fault("a long box of " + length + " in a movie", 1, inMovie(box, NEXT));
            fault("a long box of " + length + " in a track", 1, inTrack(box, NEXT));
        }
        fault("a long box of 4", 3, Build.bytes(1, 32, 0, 4), NEXT);
        fault("a short box of 2", 3, Build.bytes(2, 32), NEXT);
    }

    private static void longerThanWhatIsLeft() {
        due.sentence("or more than what is left, the reading ends with the fault 1 (NESTING)");
        int[] six = Build.bytes(9, 9, 9, 9);
        fault("6 of 6", 3, Build.bytes(6, 32), six);
        fault("7 of 6", 1, Build.bytes(7, 32), six);
        fault("255 of 6", 1, Build.bytes(255, 32), six);
        fault("8 of 8, long", 3, Build.bytes(1, 32, 0, 8), six);
        fault("9 of 8, long", 1, Build.bytes(1, 32, 0, 9), six);
        fault("264 of 8, long", 1, Build.bytes(1, 32, 1, 8), six);
        fault("65535 of 8, long", 1, Build.bytes(1, 32, 255, 255), six);
        fault("6 of 6 in a movie", 3, inMovie(Build.bytes(6, 32), six), NEXT);
        fault("7 of 6 in a movie", 1, inMovie(Build.bytes(7, 32), six), NEXT);
        fault("8 of 8 in a movie, long", 3, inMovie(Build.bytes(1, 32, 0, 8), six), NEXT);
        fault("10 of 8 in a movie, long", 1, inMovie(Build.bytes(1, 32, 0, 10), six), NEXT);
        fault("6 of 6 in a track", 3, inMovie(Build.box(Build.TRACK, Build.bytes(6, 32), six), NEXT), NEXT);
        fault("8 of 6 in a track", 1, inMovie(Build.box(Build.TRACK, Build.bytes(8, 32), six), NEXT), NEXT);
        fault("10 of 8 in a track, long", 1, inMovie(Build.box(Build.TRACK, Build.bytes(1, 32, 0, 10), six), NEXT), NEXT);
        fault("a movie past the file", 1, Build.bytes(3, 77));
        fault("a track past its movie", 1, inMovie(Build.bytes(3, 84)), NEXT);
    }

    private static void theFirstThatHolds() {
        due.sentence("When all boxes were read, the fault is the first of these that holds anywhere in the file");
        int[] kinds = Tables.plain().without(Build.DURATIONS).track();
        int[] rows = Tables.plain().with(Build.SYNCS, 1, 0).track();
        int[] counts = Tables.plain().with(Build.SYNCS, 1, 4).track();
        int[] data = Tables.plain().with(Build.PLACES, 1, 0).track();
        int[][] tracks = {kinds, rows, counts, data};
        for (int a = 0; a < tracks.length; a++) {
            for (int b = 0; b < tracks.length; b++) {
                fault("tracks with " + (a + 3) + " and " + (b + 3), 3 + Math.min(a, b), MEDIA, inMovie(tracks[a], tracks[b]));
            }
        }
        fault("4, 5 and 6 in one", 4, MEDIA, Tables.plain().with(Build.SYNCS, 2, 4, 4).with(Build.PLACES, 1, 0).movie());
        fault("5 and 6 in one", 5, MEDIA, Tables.plain().with(Build.SYNCS, 1, 4).with(Build.PLACES, 1, 0).movie());
        fault("1 behind all", 1, MEDIA, inMovie(kinds, rows), Build.bytes(2));
        fault("2 behind all", 2, MEDIA, inMovie(counts, data), Build.empties(20));
    }

    private static void oneMovie() {
        due.sentence("3 KINDS: there is not exactly one MOVIE");
        int[] good = Tables.plain().movie();
        fault("none", 3, MEDIA);
        fault("none in the empty file", 3);
        fault("one", 0, MEDIA, good);
        fault("two", 3, MEDIA, good, good);
        fault("two, the first empty", 3, MEDIA, inMovie(), good);
        fault("two, the second empty", 3, MEDIA, good, inMovie());
        fault("two, the second open", 3, MEDIA, good, Build.openBox(Build.MOVIE));
        fault("one in an other box", 3, MEDIA, Build.box(Build.FREE, good));
    }

    private static void oneOrTwoTracks() {
        due.sentence("or it has not one or two TRACKS");
        int[] good = Tables.plain().track();
        fault("none", 3, MEDIA, inMovie());
        fault("none but a box", 3, MEDIA, inMovie(Build.empties(1)));
        fault("one", 0, MEDIA, inMovie(good));
        fault("two", 0, MEDIA, inMovie(good, good));
        fault("three", 3, MEDIA, inMovie(good, good, good));
        fault("two and a box", 0, MEDIA, inMovie(good, Build.empties(1), good));
    }

    private static int[][] plainTables() {
        return new int[][] {Build.table(Build.DURATIONS, 1, 3, 10), Build.table(Build.CHUNKS, 1, 1, 3, 7),
            Build.table(Build.SIZES, 1, 3), Build.table(Build.PLACES, 1, 2)};
    }

    private static void oneOfEach() {
        due.sentence("or a TRACK has not exactly one DURATIONS, exactly one CHUNKS, exactly one SIZES");
        int[] good = Tables.plain().track();
        for (int i = 0; i < 3; i++) {
            int[][] tables = plainTables();
            int[] table = tables[i];
            int[] twice = Build.box(Build.TRACK, Build.join(tables), table);
            fault("two of " + table[1], 3, MEDIA, inMovie(twice));
            fault("two of " + table[1] + " in the second track", 3, MEDIA, inMovie(good, twice));
            tables[i] = new int[0];
            int[] never = Build.box(Build.TRACK, tables);
            fault("none of " + table[1], 3, MEDIA, inMovie(never));
            fault("none of " + table[1] + " in the second track", 3, MEDIA, inMovie(good, never));
            fault("its one of " + table[1] + " in the movie", 3, MEDIA, inMovie(never, table));
        }
        fault("one of each", 0, MEDIA, inMovie(Build.box(Build.TRACK, plainTables())));
    }

    private static void placesOrWidePlaces() {
        due.sentence("exactly one that is PLACES or WIDE PLACES");
        int[] places = Build.table(Build.PLACES, 1, 2);
        int[] wide = Build.table(Build.WIDE, 1, 0, 2);
        int[] none = Tables.plain().without(Build.PLACES).track();
        fault("none", 3, MEDIA, inMovie(none));
        fault("none in the second track", 3, MEDIA, inMovie(Tables.plain().track(), none));
        fault("places", 0, MEDIA, inMovie(Tables.plain().track()));
        fault("wide places", 0, MEDIA, inMovie(Tables.plain().without(Build.PLACES).track(wide)));
        fault("places and wide places", 3, MEDIA, inMovie(Tables.plain().track(wide)));
        fault("wide places and places", 3, MEDIA, inMovie(Tables.plain().without(Build.PLACES).track(wide, places)));
        fault("two places", 3, MEDIA, inMovie(Tables.plain().track(places)));
        fault("two wide places", 3, MEDIA, inMovie(Tables.plain().without(Build.PLACES).track(wide, wide)));
        fault("places in one track, wide ones in the other", 0, MEDIA, inMovie(Tables.plain().track(),
            Tables.plain().without(Build.PLACES).track(wide)));
    }

    private static void atMostOneOfEach() {
        due.sentence("or has more than one SHIFTS, SYNCS or EDITS");
        int[] good = Tables.plain().track();
        int[][] tables = {Build.table(Build.SHIFTS, 1, 3, 0), Build.table(Build.SYNCS, 1, 1), Build.table(Build.EDITS, 1, 1, 1)};
        for (int[] table : tables) {
            fault("one of " + table[1], 0, MEDIA, inMovie(Tables.plain().track(table)));
            fault("two of " + table[1], 3, MEDIA, inMovie(Tables.plain().track(table, table)));
            fault("two of " + table[1] + " in the second track", 3, MEDIA, inMovie(good, Tables.plain().track(table, table)));
            fault("one of " + table[1] + " in each track", 0, MEDIA, inMovie(Tables.plain().track(table), Tables.plain().track(table)));
        }
        fault("one of all", 0, MEDIA, inMovie(Tables.plain().track(tables)));
    }

    private static int checkAt(int place) {
        return Tables.plain().with(Build.WIDE, 1, place / 256, place % 256).check();
    }

    private static void chunkLiesInData() {
        due.sentence("6 DATA: a chunk does not lie in a DATA box: there is no DATA box with a payload of l bytes from place "
            + "b on for which "
            + "b <= the chunk's place, and that place plus the sizes of the chunk's samples together <= b + l");
        for (int place = 0; place < 40; place++) {
            due.is("three bytes at " + place, checkAt(place), place >= 2 && place <= 7 ? 0 : 6);
        }
        due.is("three bytes at 256 + 2", checkAt(258), 6);
        due.is("three bytes at 65535", checkAt(65535), 6);
        fault("no data box", 6, Tables.plain().movie());
        fault("half in one, half in the next", 6, Build.box(Build.DATA, Build.same(2, 1)), MEDIA, Tables.plain().movie());
        int[] atSix = Tables.plain().with(Build.PLACES, 1, 6).movie();
        fault("in the second of two", 0, Build.box(Build.DATA, Build.same(2, 1)), MEDIA, atSix);
        fault("in the header of the second", 6, Build.box(Build.DATA, Build.same(3, 1)), MEDIA, atSix);
        fault("in the second of three, of just three bytes", 0, Build.box(Build.DATA, Build.same(2, 1)),
            Build.box(Build.DATA, Build.same(3, 1)), Build.box(Build.DATA), atSix);
        fault("in the last box, behind the movie", 0, Build.box(Build.DATA), Tables.plain().with(Build.PLACES, 1, 27).movie(), MEDIA);
        Tables two = Tables.plain().with(Build.CHUNKS, 2, 1, 2, 7, 2, 1, 7);
        due.is("both of two chunks", two.with(Build.PLACES, 2, 8, 9).check(), 0);
        due.is("the first of two chunks not", two.with(Build.PLACES, 2, 9, 9).check(), 6);
        due.is("the second of two chunks not", two.with(Build.PLACES, 2, 8, 10).check(), 6);
        due.is("each chunk by its own sizes", two.with(Build.SIZES, 0, 3, 1, 1, 8).with(Build.PLACES, 2, 8, 2).check(), 0);
        due.is("a size too much in the second", two.with(Build.SIZES, 0, 3, 1, 1, 8).with(Build.PLACES, 2, 8, 3).check(), 6);
        // 255 times 255 and 515 are 65540, which would be 4 again in two bytes.
        fault("more than two bytes can tell", 6, Build.longBox(Build.DATA, Build.same(900, 1)),
            Tables.bare(255, 1).with(Build.SIZES, 255, 255).with(Build.WIDE, 1, 2, 3).movie());
    }

    private static void chunkWithoutBytes() {
        due.sentence("(so a chunk without bytes may stand at b + l)");
        for (int place = 0; place < 36; place++) {
            int want = place >= 2 && place <= 10 ? 0 : 6;
            due.is("no bytes at " + place, Tables.bare(2, 1).with(Build.PLACES, 1, place).check(), want);
        }
        fault("in data without bytes", 0, Build.box(Build.DATA), Tables.bare(2, 1).movie());
        fault("at the end of the file", 0, Tables.bare(1, 1).with(Build.PLACES, 1, 26).movie(), Build.box(Build.DATA));
        fault("one byte at the end of the file", 6, Tables.bare(1, 1).with(Build.SIZES, 1, 1).with(Build.PLACES, 1, 25).movie(),
            Build.box(Build.DATA));
        fault("no data box", 6, Tables.bare(2, 1).movie());
    }

    private static void noFault() {
        due.sentence("If none holds, there is no fault (0).");
        fault("with all that may be", 0, Build.empties(1), Build.longBox(Build.DATA, Build.counting(300)), Build.empties(1),
            Tables.plain().with(Build.WIDE, 1, 1, 0).with(Build.SHIFTS, 1, 3, 128).with(Build.SYNCS, 1, 3)
                .with(Build.EDITS, 1, 255, 255).movie(Build.empties(1), Tables.ofNothing().track()), Build.openBox(Build.FREE));
        fault("the least of all", 0, Tables.ofNothing().movie());
    }

    private static void numberedFrom0() {
        due.sentence("TRACKS and samples are numbered from 0.");
        MovieBoxes x = Build.file(MEDIA, inMovie(Tables.plain().track(), Tables.bare(2, 1).track()));
        due.is("samples(0)", x.samples(0), 3);
        due.is("samples(1)", x.samples(1), 2);
        due.is("samples(2)", x.samples(2), MovieBoxes.NONE);
        due.is("sample(0, 0, 0)", x.sample(0, 0, 0), 2);
        due.is("sample(0, 2, 0)", x.sample(0, 2, 0), 4);
        due.is("sample(0, 3, 0)", x.sample(0, 3, 0), MovieBoxes.NONE);
    }
}
