import java.util.Arrays;

/** What the document says of the faults 4 ROWS and 5 COUNTS: each clause has a test. */
public final class SentencesRowsTest {
    private static final int[] MEDIA = Build.box(Build.DATA, Build.counting(8));
    private static final Due due = new Due();

    public static void main(String[] args) {
        lengthOfSizes();
        lengthOfRows();
        numbersInFront();
        firstOfTheFirstRow();
        firstOfLaterRows();
        manyOfNone();
        firstSync();
        laterSyncs();
        countsOfDurations();
        countsOfShifts();
        chunksWithoutRows();
        rowsWithoutChunks();
        samplesOfTheChunks();
        syncsPastTheLast();
        due.end();
    }

    /** The fault of a file with the plain tables but for one, in the first track and in the second. */
    private static void fault(String what, int want, int type, int... payload) {
        int[] track = Tables.plain().with(type, payload).track();
        due.is(what + ": check()", Build.file(MEDIA, Build.fit(Build.MOVIE, track)).check(), want);
        int[] second = Build.fit(Build.MOVIE, Tables.plain().track(), track);
        due.is(what + " in the second track: check()", Build.file(MEDIA, second).check(), want);
    }

    private static void fault(String what, int want, Tables tables) {
        due.is(what + ": check()", tables.check(), want);
    }

    private static void lengthOfSizes() {
        due.sentence("4 ROWS: the payload of a table is not exactly as long as said above", "SIZES");
        fault("three sizes", 0, Build.SIZES, 0, 3, 1, 1, 1);
        fault("two sizes for three", 4, Build.SIZES, 0, 3, 1, 1);
        fault("four sizes for three", 4, Build.SIZES, 0, 3, 1, 1, 1, 1);
        fault("no sizes for three", 4, Build.SIZES, 0, 3);
        fault("a fixed size", 0, Build.SIZES, 2, 3);
        fault("a fixed size and one more", 4, Build.SIZES, 2, 3, 2);
        fault("a fixed size and three more", 4, Build.SIZES, 2, 3, 2, 2, 2);
        fault("no sizes for none", 0, Tables.ofNothing().with(Build.SIZES, 0, 0));
        fault("a size for none", 4, Tables.ofNothing().with(Build.SIZES, 0, 0, 1));
        fault("a size for none, fixed", 4, Tables.ofNothing().with(Build.SIZES, 1, 0, 1));
        fault("259 sizes for three", 4, Build.SIZES, Build.join(Build.bytes(0, 3), Build.same(259, 0)));
    }

    private static void lengthOfRows() {
        due.sentence("4 ROWS: the payload of a table is not exactly as long as said above", "every other table");
        int[] types = {Build.DURATIONS, Build.SHIFTS, Build.CHUNKS, Build.PLACES, Build.WIDE, Build.SYNCS, Build.EDITS};
        int[][] good = {{1, 3, 10}, {1, 3, 0}, {1, 1, 3, 7}, {1, 2}, {1, 0, 2}, {1, 1}, {1, 5, 5}};
        for (int i = 0; i < types.length; i++) {
            int[] whole = good[i];
            String name = "table " + types[i];
            fault(name, 0, types[i], whole);
            fault(name + " with a byte more", 4, types[i], Build.join(whole, Build.bytes(0)));
            for (int less = 1; less < whole.length; less++) {
                fault(name + " with bytes less: " + less, 4, types[i], Arrays.copyOf(whole, whole.length - less));
            }
            int[] another = Arrays.copyOfRange(whole, 1, whole.length);
            fault(name + " with a row more", 4, types[i], Build.join(whole, another));
            int[] told = whole.clone();
            told[0] = 2;
            fault(name + " with a row less", 4, types[i], told);
            told[0] = 0;
            fault(name + " with rows where none are told", 4, types[i], told);
            told[0] = 255;
            fault(name + " with 255 told", 4, types[i], told);
        }
    }

    private static void numbersInFront() {
        due.sentence("(also if it lacks the bytes for the numbers in front)");
        int[] types = {Build.DURATIONS, Build.SHIFTS, Build.CHUNKS, Build.SIZES, Build.PLACES, Build.WIDE, Build.SYNCS, Build.EDITS};
        for (int type : types) {
            fault("table " + type + " of nothing", 4, type);
            int[] others = Tables.plain().without(type == Build.WIDE ? Build.PLACES : type).track(Build.longBox(type));
            due.is("table " + type + " of nothing, long", Build.file(MEDIA, Build.box(Build.MOVIE, others)).check(), 4);
            // The byte behind the table would be a number that fits.
            int[] last = Tables.ofNothing().without(type == Build.WIDE ? Build.PLACES : type).track(Build.box(type));
            due.is("table " + type + " of nothing, the last", Build.file(MEDIA, Build.box(Build.MOVIE, last),
                Build.openBox(Build.FREE)).check(), 4);
        }
        fault("sizes of one byte, 0", 4, Build.SIZES, 0);
        fault("sizes of one byte, fixed", 4, Build.SIZES, 1);
        int[] last = Tables.ofNothing().without(Build.SIZES).track(Build.table(Build.SIZES, 1));
        due.is("sizes of one byte, the last", Build.file(MEDIA, Build.box(Build.MOVIE, last), Build.openBox(Build.FREE)).check(), 4);
    }

    private static void firstOfTheFirstRow() {
        due.sentence("or the first row of CHUNKS has a first other than 1");
        fault("1", 0, Build.CHUNKS, 1, 1, 3, 7);
        fault("0", 4, Build.CHUNKS, 1, 0, 3, 7);
        fault("2", 4, Build.CHUNKS, 1, 2, 3, 7);
        fault("255", 4, Build.CHUNKS, 1, 255, 3, 7);
        fault("no row", 0, Tables.ofNothing());
    }

    private static Tables threeChunks() {
        return Tables.plain().with(Build.PLACES, 3, 2, 3, 4);
    }

    private static void firstOfLaterRows() {
        due.sentence("or a later row a first that is not greater than that of the row before");
        fault("1, 2, 3", 0, threeChunks().with(Build.CHUNKS, 3, 1, 1, 7, 2, 1, 7, 3, 1, 7));
        fault("1, 3", 0, threeChunks().with(Build.CHUNKS, 2, 1, 1, 7, 3, 1, 7));
        fault("1, 1", 4, threeChunks().with(Build.CHUNKS, 2, 1, 1, 7, 1, 1, 7));
        fault("1, 0", 4, threeChunks().with(Build.CHUNKS, 2, 1, 1, 7, 0, 1, 7));
        fault("1, 2, 2", 4, threeChunks().with(Build.CHUNKS, 3, 1, 1, 7, 2, 1, 7, 2, 1, 7));
        fault("1, 3, 2", 4, threeChunks().with(Build.CHUNKS, 3, 1, 1, 7, 3, 1, 7, 2, 1, 7));
    }

    private static void manyOfNone() {
        due.sentence("or a row a many of 0");
        fault("in the only row", 4, Build.CHUNKS, 1, 1, 0, 7);
        fault("in the first row", 4, threeChunks().with(Build.CHUNKS, 2, 1, 0, 7, 3, 3, 7));
        fault("in the last row", 4, threeChunks().with(Build.CHUNKS, 2, 1, 3, 7, 2, 0, 7));
        fault("in the only row, for no samples", 4, Tables.ofNothing().with(Build.CHUNKS, 1, 1, 0, 7).with(Build.PLACES, 1, 2));
        int[] last = Tables.plain().without(Build.CHUNKS).track(Build.table(Build.CHUNKS, 1, 1, 3, 7), Build.bytes(4, 0, 0, 0));
        due.is("zeros behind the table: check()", Build.file(MEDIA, Build.box(Build.MOVIE, last)).check(), 0);
        fault("a many of 1", 0, threeChunks().with(Build.CHUNKS, 1, 1, 1, 7));
        fault("a description of 0", 0, Build.CHUNKS, 1, 1, 3, 0);
    }

    private static void firstSync() {
        due.sentence("or the first row of SYNCS is 0");
        fault("0", 4, Build.SYNCS, 1, 0);
        fault("0 and 1", 4, Build.SYNCS, 2, 0, 1);
        fault("1", 0, Build.SYNCS, 1, 1);
        fault("no row", 0, Build.SYNCS, 0);
    }

    private static void laterSyncs() {
        due.sentence("or a later one not greater than the one before");
        fault("1, 2, 3", 0, Build.SYNCS, 3, 1, 2, 3);
        fault("1, 3", 0, Build.SYNCS, 2, 1, 3);
        fault("1, 1", 4, Build.SYNCS, 2, 1, 1);
        fault("2, 1", 4, Build.SYNCS, 2, 2, 1);
        fault("1, 2, 2", 4, Build.SYNCS, 3, 1, 2, 2);
        fault("1, 3, 2", 4, Build.SYNCS, 3, 1, 3, 2);
        fault("1, 0", 4, Build.SYNCS, 2, 1, 0);
    }

    private static void countsOfDurations() {
        due.sentence("5 COUNTS: in a track the counts of DURATIONS together are not N");
        fault("3", 0, Build.DURATIONS, 1, 3, 1);
        fault("2", 5, Build.DURATIONS, 1, 2, 1);
        fault("4", 5, Build.DURATIONS, 1, 4, 1);
        fault("no rows", 5, Build.DURATIONS, 0);
        fault("1, 0 and 2", 0, Build.DURATIONS, 3, 1, 1, 0, 1, 2, 1);
        fault("2 and 2", 5, Build.DURATIONS, 2, 2, 1, 2, 1);
        fault("3 and 256", 5, Build.DURATIONS, 3, 255, 1, 3, 1, 1, 1);
        fault("255 for 255", 0, Tables.bare(255, 1));
        fault("256 for 255", 5, Tables.bare(255, 1).with(Build.DURATIONS, 2, 255, 1, 1, 1));
        fault("0 for none", 0, Tables.ofNothing().with(Build.DURATIONS, 1, 0, 9));
        fault("1 for none", 5, Tables.ofNothing().with(Build.DURATIONS, 1, 1, 9));
        fault("256 for none", 5, Tables.ofNothing().with(Build.DURATIONS, 2, 255, 9, 1, 9));
    }

    private static void countsOfShifts() {
        due.sentence("or there is SHIFTS and its counts together are not N");
        fault("3", 0, Build.SHIFTS, 1, 3, 1);
        fault("2", 5, Build.SHIFTS, 1, 2, 1);
        fault("4", 5, Build.SHIFTS, 1, 4, 1);
        fault("no rows", 5, Build.SHIFTS, 0);
        fault("1, 0 and 2", 0, Build.SHIFTS, 3, 1, 1, 0, 1, 2, 1);
        fault("3 and 256", 5, Build.SHIFTS, 3, 255, 1, 3, 1, 1, 1);
        fault("no table", 0, Tables.plain());
        fault("0 for none", 0, Tables.ofNothing().with(Build.SHIFTS, 1, 0, 9));
        fault("no rows for none", 0, Tables.ofNothing().with(Build.SHIFTS, 0));
        fault("1 for none", 5, Tables.ofNothing().with(Build.SHIFTS, 1, 1, 9));
    }

    private static void chunksWithoutRows() {
        due.sentence("or there are chunks but no row of CHUNKS");
        fault("one chunk", 5, Build.CHUNKS, 0);
        fault("one chunk and no samples", 5, Tables.ofNothing().with(Build.PLACES, 1, 2));
        fault("one wide chunk and no samples", 5, Tables.ofNothing().with(Build.WIDE, 1, 0, 2));
        fault("no chunk and no row", 0, Tables.ofNothing());
        fault("no chunk and no row, but samples", 5, Tables.plain().with(Build.PLACES, 0).with(Build.CHUNKS, 0));
    }

    private static void rowsWithoutChunks() {
        due.sentence("or a row of CHUNKS whose first is greater than the number of chunks");
        fault("2 of 2", 0, Tables.plain().with(Build.CHUNKS, 2, 1, 1, 7, 2, 2, 7).with(Build.PLACES, 2, 2, 2));
        fault("2 of 1", 5, Build.CHUNKS, 2, 1, 3, 7, 2, 1, 7);
        // Were the row from 3 on passed over, the two chunks would have the three samples.
        fault("3 of 2", 5, Tables.plain().with(Build.CHUNKS, 3, 1, 1, 7, 2, 2, 7, 3, 1, 7).with(Build.PLACES, 2, 2, 2));
        // And here three are counted, if the row from 4 on counts for -1 chunk.
        fault("4 of 2", 5, Tables.plain().with(Build.CHUNKS, 2, 1, 2, 7, 4, 3, 7).with(Build.PLACES, 2, 2, 2));
        fault("255 of 1", 5, Build.CHUNKS, 2, 1, 3, 7, 255, 1, 7);
        fault("1 of none", 5, Tables.ofNothing().with(Build.CHUNKS, 1, 1, 1, 7));
    }

    private static void samplesOfTheChunks() {
        due.sentence("or the chunks together have not N samples");
        fault("3", 0, Build.CHUNKS, 1, 1, 3, 7);
        fault("2", 5, Build.CHUNKS, 1, 1, 2, 7);
        fault("4", 5, Build.CHUNKS, 1, 1, 4, 7);
        fault("3 in each of two", 5, Build.PLACES, 2, 2, 2);
        fault("1 and 2", 0, Tables.plain().with(Build.CHUNKS, 2, 1, 1, 7, 2, 2, 7).with(Build.PLACES, 2, 2, 2));
        fault("1, 1 and 2", 5, Tables.plain().with(Build.CHUNKS, 2, 1, 1, 7, 3, 2, 7).with(Build.PLACES, 3, 2, 2, 2));
        fault("1, 2 and 2", 5, Tables.plain().with(Build.CHUNKS, 2, 1, 1, 7, 2, 2, 7).with(Build.PLACES, 3, 2, 2, 2));
        fault("256 for none", 5, Tables.ofNothing().with(Build.CHUNKS, 1, 1, 128, 7).with(Build.PLACES, 2, 2, 2));
        fault("3 and 256", 5, Tables.plain().with(Build.CHUNKS, 2, 1, 128, 7, 3, 3, 7).with(Build.PLACES, 3, 2, 2, 2));
        fault("255 for 255", 0, Tables.bare(255, 1));
        fault("254 for 255", 5, Tables.bare(255, 1).with(Build.CHUNKS, 1, 1, 254, 7));
    }

    private static void syncsPastTheLast() {
        due.sentence("or a row of SYNCS is greater than N");
        fault("3 of 3", 0, Build.SYNCS, 1, 3);
        fault("4 of 3", 5, Build.SYNCS, 1, 4);
        fault("3 and 4 of 3", 5, Build.SYNCS, 2, 3, 4);
        fault("255 of 3", 5, Build.SYNCS, 1, 255);
        fault("255 of 255", 0, Tables.bare(255, 1).with(Build.SYNCS, 1, 255));
        fault("255 of 254", 5, Tables.bare(254, 1).with(Build.SYNCS, 1, 255));
        fault("1 of none", 5, Tables.ofNothing().with(Build.SYNCS, 1, 1));
        fault("none of none", 0, Tables.ofNothing().with(Build.SYNCS, 0));
    }
}
