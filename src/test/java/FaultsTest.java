/** Promise 7: check. */
public final class FaultsTest {
    private static final Due due = new Due();

    public static void main(String[] args) {
        nesting();
        nestingInside();
        many();
        kinds();
        trackKinds();
        rowLengths();
        rowOrder();
        counts();
        chunkCounts();
        data();
        emptyChunk();
        firstFaultOfAll();
        due.end();
    }

    private static void fault(String what, int want, int[]... parts) {
        due.is(what, Build.file(parts).check(), want);
    }

    private static int[] free(int size) {
        return Build.box(Build.FREE, Build.same(size - 2, 9));
    }

    private static void nesting() {
        fault("the empty file", 3);
        fault("one byte", 1, Build.bytes(2));
        fault("one byte behind a box", 1, free(4), Build.bytes(0));
        fault("a box to its end", 3, free(4));
        fault("a box past the end", 1, Build.bytes(3, 32));
        fault("a long header cut at 2", 1, Build.bytes(1, 32));
        fault("a long header cut at 3", 1, Build.bytes(1, 32, 0));
        fault("a long box of 4", 3, Build.bytes(1, 32, 0, 4));
        fault("a long box of 3", 1, Build.bytes(1, 32, 0, 3));
        fault("a long box of 0", 1, Build.bytes(1, 32, 0, 0));
        fault("a long box past the end", 1, Build.bytes(1, 32, 0, 5));
        fault("a long box of 256 and more", 1, Build.bytes(1, 32, 1, 4));
        fault("a long box, higher byte first", 3, Build.longBox(32, Build.same(300, 1)));
        fault("an open box of nothing", 3, Build.bytes(0, 32));
        fault("an open box takes all", 3, Build.bytes(0, 32, 9, 9, 9));
    }

    private static void nestingInside() {
        fault("one byte in a movie", 1, Build.box(Build.MOVIE, Build.bytes(2)));
        fault("an open box in a movie", 1, Build.box(Build.MOVIE, Build.bytes(0, 32)));
        fault("an open box in a movie that is open", 1, Build.openBox(Build.MOVIE, Build.bytes(0, 32)));
        fault("a box past its movie", 1, Build.box(Build.MOVIE, Build.bytes(3, 32)), Build.bytes(2, 32));
        fault("a long box past its movie", 1, Build.box(Build.MOVIE, Build.bytes(1, 32)), Build.bytes(0, 4));
        fault("an open box in a track", 1, Build.box(Build.MOVIE, Build.box(Build.TRACK, Build.bytes(0, 32))));
        fault("a box past its track", 1,
            Build.box(Build.MOVIE, Build.box(Build.TRACK, Build.bytes(3, 32)), Build.bytes(2, 32)));
        fault("nothing is read in a track at the top", 3, Build.box(Build.TRACK, Build.bytes(0)));
        fault("nothing is read in a movie in a movie", 3, Build.box(Build.MOVIE, Build.box(Build.MOVIE, Build.bytes(0))));
        fault("nothing is read in a track in a track", 3,
            Build.box(Build.MOVIE, Build.box(Build.TRACK, Build.box(Build.TRACK, Build.bytes(0)))));
        fault("nothing is read in a table's box at the top", 3, Build.box(Build.SIZES, Build.bytes(0)));
    }

    private static void many() {
        fault("20 boxes", 3, Build.empties(20));
        fault("21 boxes", 2, Build.empties(21));
        fault("a byte behind 20 boxes", 2, Build.empties(20), Build.bytes(7));
        fault("a bad box behind 20 boxes", 2, Build.empties(20), Build.bytes(1, 1, 0, 0));
        fault("the 20th is bad", 1, Build.empties(19), Build.bytes(7));
        fault("a movie with 19", 3, Build.box(Build.MOVIE, Build.empties(19)));
        fault("a movie with 20", 2, Build.box(Build.MOVIE, Build.empties(20)));
        fault("the 20th is an empty movie", 3, Build.empties(19), Build.bytes(2, 77));
        fault("the 20th is a movie with a byte", 2, Build.empties(19), Build.bytes(3, 77, 9));
        fault("a bad box before the 21st", 1, Build.bytes(2, 32), Build.box(Build.MOVIE, Build.bytes(9)), Build.empties(25));
        fault("a good file of 20 boxes", 0, Build.box(Build.MOVIE, Build.plainTrack(25)), Build.box(Build.DATA, Build.same(5, 1)),
            Build.empties(13));
        fault("a good file and one more", 2, Build.box(Build.MOVIE, Build.plainTrack(25)),
            Build.box(Build.DATA, Build.same(5, 1)), Build.empties(14));
    }

    private static final int[] MEDIA = Build.box(Build.DATA, Build.same(8, 1));

    /** A file with one track of these boxes, the data at places 2 .. 9. */
    private static int withTrack(int[]... tables) {
        return Build.file(MEDIA, Build.box(Build.MOVIE, Build.box(Build.TRACK, tables))).check();
    }

    private static void kinds() {
        int[] good = Build.plainTrack(2);
        fault("one track", 0, MEDIA, Build.box(Build.MOVIE, good));
        fault("two tracks", 0, MEDIA, Build.box(Build.MOVIE, good, good));
        fault("three tracks", 3, MEDIA, Build.box(Build.MOVIE, good, good, good));
        fault("no track", 3, MEDIA, Build.box(Build.MOVIE));
        fault("no movie", 3, MEDIA);
        fault("a track at the top", 3, MEDIA, good);
        fault("two movies", 3, MEDIA, Build.box(Build.MOVIE, good), Build.box(Build.MOVIE, good));
        fault("a movie and an empty one", 3, MEDIA, Build.box(Build.MOVIE, good), Build.box(Build.MOVIE));
        fault("two movies with a track in all", 3, MEDIA, Build.box(Build.MOVIE, good), Build.bytes(2, 77));
        fault("a movie in a movie is another box", 0, MEDIA, Build.box(Build.MOVIE, good, Build.box(Build.MOVIE, good)));
        fault("the second track lacks all", 3, MEDIA, Build.box(Build.MOVIE, good, Build.box(Build.TRACK)));
        fault("data in a movie is another box", 6, Build.box(Build.MOVIE, Build.box(Build.DATA, Build.same(6, 1)), good));
        fault("an open movie", 0, MEDIA, Build.openBox(Build.MOVIE, good));
        fault("open data", 0, Build.box(Build.MOVIE, Build.plainTrack(25)), Build.openBox(Build.DATA, Build.same(3, 1)));
    }

    private static void trackKinds() {
        int[] durations = Build.table(Build.DURATIONS, 1, 3, 10);
        int[] chunks = Build.table(Build.CHUNKS, 1, 1, 3, 7);
        int[] sizes = Build.table(Build.SIZES, 1, 3);
        int[] places = Build.table(Build.PLACES, 1, 2);
        int[] wide = Build.table(Build.WIDE, 1, 0, 2);
        int[] shifts = Build.table(Build.SHIFTS, 1, 3, 0);
        int[] syncs = Build.table(Build.SYNCS, 0);
        int[] edits = Build.table(Build.EDITS, 0);
        due.is("all that must be", withTrack(durations, chunks, sizes, places), 0);
        due.is("in any order", withTrack(places, sizes, chunks, durations), 0);
        due.is("wide places", withTrack(durations, chunks, sizes, wide), 0);
        due.is("all that may be", withTrack(durations, chunks, sizes, places, shifts, syncs, edits), 0);
        due.is("other boxes too", withTrack(Build.bytes(2, 32), durations, Build.bytes(2, 68), chunks, sizes, places), 0);
        due.is("no durations", withTrack(chunks, sizes, places), 3);
        due.is("no chunks", withTrack(durations, sizes, places), 3);
        due.is("no sizes", withTrack(durations, chunks, places), 3);
        due.is("no places", withTrack(durations, chunks, sizes), 3);
        due.is("two durations", withTrack(durations, chunks, sizes, places, durations), 3);
        due.is("two chunks", withTrack(durations, chunks, sizes, places, chunks), 3);
        due.is("two sizes", withTrack(durations, chunks, sizes, places, sizes), 3);
        due.is("two places", withTrack(durations, chunks, sizes, places, places), 3);
        due.is("places and wide places", withTrack(durations, chunks, sizes, places, wide), 3);
        due.is("two wide places", withTrack(durations, chunks, sizes, wide, wide), 3);
        due.is("two shifts", withTrack(durations, chunks, sizes, places, shifts, shifts), 3);
        due.is("two syncs", withTrack(durations, chunks, sizes, places, syncs, syncs), 3);
        due.is("two edits", withTrack(durations, chunks, sizes, places, edits, edits), 3);
    }

    /** A track whose tables have no fault, but one is put in the place of its like, or added. */
    private static int withTable(int type, int... payload) {
        int[] instead = Build.table(type, payload);
        boolean isPlaces = type == Build.PLACES || type == Build.WIDE;
        boolean isMore = type == Build.SHIFTS || type == Build.SYNCS || type == Build.EDITS;
        return withTrack(
            type == Build.DURATIONS ? instead : Build.table(Build.DURATIONS, 1, 3, 10),
            type == Build.CHUNKS ? instead : Build.table(Build.CHUNKS, 1, 1, 3, 7),
            type == Build.SIZES ? instead : Build.table(Build.SIZES, 1, 3),
            isPlaces ? instead : Build.table(Build.PLACES, 1, 2),
            isMore ? instead : new int[0]);
    }

    private static void rowLengths() {
        int[] types = {Build.DURATIONS, Build.SHIFTS, Build.CHUNKS, Build.SIZES, Build.PLACES, Build.WIDE, Build.SYNCS, Build.EDITS};
        for (int type : types) {
            due.is("a table " + type + " of nothing", withTable(type), 4);
        }
        due.is("sizes of one byte", withTable(Build.SIZES, 0), 4);
        due.is("sizes of one byte, fixed", withTable(Build.SIZES, 3), 4);
        due.is("sizes, all there", withTable(Build.SIZES, 0, 3, 1, 1, 1), 0);
        due.is("sizes, one lacks", withTable(Build.SIZES, 0, 3, 1, 1), 4);
        due.is("sizes, one too many", withTable(Build.SIZES, 0, 3, 1, 1, 1, 1), 4);
        due.is("fixed sizes with more", withTable(Build.SIZES, 1, 3, 1, 1, 1), 4);
        due.is("durations, half a row", withTable(Build.DURATIONS, 1, 3), 4);
        due.is("durations, a byte more", withTable(Build.DURATIONS, 1, 3, 10, 0), 4);
        due.is("durations, no rows but bytes", withTable(Build.DURATIONS, 0, 3, 10), 4);
        due.is("shifts, half a row", withTable(Build.SHIFTS, 2, 3, 10, 0), 4);
        due.is("shifts, two rows", withTable(Build.SHIFTS, 2, 3, 10, 0, 5), 0);
        due.is("chunks, two thirds of a row", withTable(Build.CHUNKS, 1, 1, 3), 4);
        due.is("chunks, a byte more", withTable(Build.CHUNKS, 1, 1, 3, 7, 7), 4);
        due.is("places, one lacks", withTable(Build.PLACES, 1), 4);
        due.is("places, as wide ones", withTable(Build.PLACES, 1, 0, 2), 4);
        due.is("wide places, as narrow ones", withTable(Build.WIDE, 1, 2), 4);
        due.is("syncs, one lacks", withTable(Build.SYNCS, 2, 1), 4);
        due.is("edits, half a row", withTable(Build.EDITS, 1, 1), 4);
        due.is("edits, a row", withTable(Build.EDITS, 1, 0, 0), 0);
    }

    private static void rowOrder() {
        due.is("the first chunk row from 0", withTable(Build.CHUNKS, 1, 0, 3, 7), 4);
        due.is("the first chunk row from 2", withTable(Build.CHUNKS, 1, 2, 3, 7), 4);
        due.is("a chunk row of none", withTable(Build.CHUNKS, 1, 1, 0, 7), 4);
        due.is("a later chunk row of none", withTable(Build.CHUNKS, 2, 1, 3, 7, 2, 0, 7), 4);
        due.is("chunk rows from 1 and 1", withTable(Build.CHUNKS, 2, 1, 3, 7, 1, 3, 7), 4);
        due.is("chunk rows from 1, 3, 2", withTable(Build.CHUNKS, 3, 1, 1, 7, 3, 1, 7, 2, 1, 7), 4);
        due.is("chunk rows from 1, 2, past the last", withTable(Build.CHUNKS, 2, 1, 3, 7, 2, 3, 7), 5);
        due.is("a sync 0", withTable(Build.SYNCS, 1, 0), 4);
        due.is("syncs 1 and 1", withTable(Build.SYNCS, 2, 1, 1), 4);
        due.is("syncs 2 and 1", withTable(Build.SYNCS, 2, 2, 1), 4);
        due.is("syncs 1, 2, 0", withTable(Build.SYNCS, 3, 1, 2, 0), 4);
        due.is("syncs 1, 2, 3", withTable(Build.SYNCS, 3, 1, 2, 3), 0);
    }

    private static void counts() {
        due.is("durations for 2 of 3", withTable(Build.DURATIONS, 1, 2, 10), 5);
        due.is("durations for 4 of 3", withTable(Build.DURATIONS, 1, 4, 10), 5);
        due.is("durations in rows of 0, 1, 2", withTable(Build.DURATIONS, 3, 0, 9, 1, 10, 2, 0), 0);
        due.is("no durations for 3", withTable(Build.DURATIONS, 0), 5);
        due.is("durations for 3 and 256", withTable(Build.DURATIONS, 3, 3, 1, 255, 1, 1, 1), 5);
        due.is("shifts for 2 of 3", withTable(Build.SHIFTS, 1, 2, 0), 5);
        due.is("no shifts for 3", withTable(Build.SHIFTS, 0), 5);
        due.is("shifts for 3", withTable(Build.SHIFTS, 2, 3, 1, 0, 1), 0);
        due.is("a sync past the last", withTable(Build.SYNCS, 2, 3, 4), 5);
        due.is("no syncs", withTable(Build.SYNCS, 0), 0);
        due.is("more samples than the chunks have", withTable(Build.SIZES, 1, 4), 5);
    }

    private static void chunkCounts() {
        due.is("two chunks for the samples of one", withTable(Build.PLACES, 2, 2, 2), 5);
        due.is("no chunk for a chunk row", withTable(Build.PLACES, 0), 5);
        due.is("chunks and no chunk row", withTable(Build.CHUNKS, 0), 5);
        due.is("2 samples for 3", withTable(Build.CHUNKS, 1, 1, 2, 7), 5);
        due.is("nothing at all", withTrack(Build.table(Build.DURATIONS, 0), Build.table(Build.CHUNKS, 0),
            Build.table(Build.SIZES, 9, 0), Build.table(Build.PLACES, 0)), 0);
        due.is("no samples, a chunk row", withTrack(Build.table(Build.DURATIONS, 0), Build.table(Build.CHUNKS, 1, 1, 1, 1),
            Build.table(Build.SIZES, 9, 0), Build.table(Build.PLACES, 0)), 5);
        due.is("no samples, a chunk", withTrack(Build.table(Build.DURATIONS, 0), Build.table(Build.CHUNKS, 0),
            Build.table(Build.SIZES, 9, 0), Build.table(Build.PLACES, 1, 2)), 5);
        due.is("rows 1: 2, 3: 1 over 3 chunks", withTrack(Build.table(Build.DURATIONS, 1, 5, 1),
            Build.table(Build.CHUNKS, 2, 1, 2, 1, 3, 1, 1), Build.table(Build.SIZES, 1, 5), Build.table(Build.PLACES, 3, 2, 3, 4)), 0);
        due.is("rows 1: 2, 3: 1 over 4 chunks", withTrack(Build.table(Build.DURATIONS, 1, 5, 1),
            Build.table(Build.CHUNKS, 2, 1, 2, 1, 3, 1, 1), Build.table(Build.SIZES, 1, 5), Build.table(Build.PLACES, 4, 2, 3, 4, 5)), 5);
    }

    private static void data() {
        due.is("at the data's first byte", withTable(Build.PLACES, 1, 2), 0);
        due.is("in the data's header", withTable(Build.PLACES, 1, 1), 6);
        due.is("to the data's last byte", withTable(Build.PLACES, 1, 7), 0);
        due.is("past the data's last byte", withTable(Build.PLACES, 1, 8), 6);
        due.is("far behind the file", withTable(Build.WIDE, 1, 255, 255), 6);
        due.is("a wide place, higher byte first", withTable(Build.WIDE, 1, 2, 0), 6);
        int[] track = Build.plainTrack(3);
        fault("from one data box into the next", 6, Build.box(Build.DATA, Build.same(3, 1)),
            Build.box(Build.DATA, Build.same(3, 1)), Build.box(Build.MOVIE, track));
        fault("in the second data box", 0, Build.box(Build.DATA), Build.box(Build.DATA, Build.same(3, 1)),
            Build.box(Build.MOVIE, Build.plainTrack(4)));
        fault("behind a long header", 0, Build.longBox(Build.DATA, Build.same(3, 1)), Build.box(Build.MOVIE, Build.plainTrack(4)));
        fault("in a long header", 6, Build.longBox(Build.DATA, Build.same(4, 1)), Build.box(Build.MOVIE, track));
        fault("in another box", 6, Build.box(Build.FREE, Build.same(8, 1)), Build.box(Build.MOVIE, track));
        fault("the second track's chunk", 6, MEDIA, Build.box(Build.MOVIE, track, Build.plainTrack(1)));
        due.is("the second chunk of two", withTrack(Build.table(Build.DURATIONS, 1, 4, 1), Build.table(Build.CHUNKS, 1, 1, 2, 1),
            Build.table(Build.SIZES, 0, 4, 1, 1, 1, 2), Build.table(Build.PLACES, 2, 2, 8)), 6);
        due.is("the first chunk of two", withTrack(Build.table(Build.DURATIONS, 1, 4, 1), Build.table(Build.CHUNKS, 1, 1, 2, 1),
            Build.table(Build.SIZES, 0, 4, 1, 2, 1, 1), Build.table(Build.PLACES, 2, 8, 8)), 6);
        due.is("both fit, each its own sizes", withTrack(Build.table(Build.DURATIONS, 1, 4, 1), Build.table(Build.CHUNKS, 1, 1, 2, 1),
            Build.table(Build.SIZES, 0, 4, 1, 2, 1, 1), Build.table(Build.PLACES, 2, 7, 8)), 0);
    }

    private static void emptyChunk() {
        due.is("a chunk without bytes at the data's end", emptyAt(10), 0);
        due.is("a chunk without bytes at the data's start", emptyAt(2), 0);
        due.is("a chunk without bytes in the header", emptyAt(1), 6);
        due.is("a chunk without bytes behind the data", emptyAt(11), 6);
    }

    private static int emptyAt(int place) {
        return withTrack(Build.table(Build.DURATIONS, 1, 2, 1), Build.table(Build.CHUNKS, 1, 1, 2, 1),
            Build.table(Build.SIZES, 0, 2, 0, 0), Build.table(Build.PLACES, 1, place));
    }

    private static void firstFaultOfAll() {
        int[] noData = Build.plainTrack(0);
        int[] badCounts = Build.box(Build.TRACK, Build.table(Build.DURATIONS, 0), Build.table(Build.CHUNKS, 0),
            Build.table(Build.SIZES, 1, 3), Build.table(Build.PLACES, 0));
        int[] badRows = Build.box(Build.TRACK, Build.table(Build.DURATIONS), Build.table(Build.CHUNKS, 0),
            Build.table(Build.SIZES, 1, 3), Build.table(Build.PLACES, 0));
        int[] badKinds = Build.box(Build.TRACK);
        fault("data, then counts", 5, MEDIA, Build.box(Build.MOVIE, noData, badCounts));
        fault("counts, then rows", 4, MEDIA, Build.box(Build.MOVIE, badCounts, badRows));
        fault("rows, then kinds", 3, MEDIA, Build.box(Build.MOVIE, badRows, badKinds));
        fault("data, then rows", 4, MEDIA, Build.box(Build.MOVIE, noData, badRows));
        fault("kinds, then nesting", 1, MEDIA, Build.box(Build.MOVIE, badKinds), Build.bytes(9));
    }
}
