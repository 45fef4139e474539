/** What the document says of TABLES: each sentence with an edge has a test. */
public final class SentencesTablesTest {
    private static final int NONE = MovieBoxes.NONE;
    private static final Due due = new Due();

    public static void main(String[] args) {
        sizesOneByOne();
        sizesFixed();
        numberOfSamples();
        numberOfRows();
        mostRows();
        durations();
        shifts();
        narrowPlaces();
        widePlaces();
        chunksFromOne();
        chunkRows();
        samplesFillChunks();
        samplesLieBehindOneAnother();
        syncs();
        withoutSyncs();
        edits();
        due.end();
    }

    private static void valuesAre(MovieBoxes x, int what, int... want) {
        due.is("check()", x.check(), 0);
        due.is("samples(0)", x.samples(0), want.length);
        for (int k = 0; k < want.length; k++) {
            due.is("sample(0, " + k + ", " + what + ")", x.sample(0, k, what), want[k]);
        }
    }

    /** DATA with 900 bytes at places 4 .. 903, and then the MOVIE. */
    private static MovieBoxes withMuchData(Tables tables) {
        return Build.file(Build.longBox(Build.DATA, Build.same(900, 1)), tables.movie());
    }

    private static void sizesOneByOne() {
        due.sentence("The payload of SIZES is two bytes, FIXED and N, and then, if FIXED is 0, N bytes more, the sizes of "
            + "samples 0 .. N - 1");
        valuesAre(Tables.plain().with(Build.SIZES, 0, 3, 0, 5, 3).file(), 1, 0, 5, 3);
        Tables one = Tables.bare(1, 1).with(Build.PLACES, 1, 4);
        valuesAre(withMuchData(one.with(Build.SIZES, 0, 1, 255)), 1, 255);
        valuesAre(withMuchData(one.with(Build.SIZES, 0, 1, 0)), 1, 0);
        valuesAre(Tables.ofNothing().with(Build.SIZES, 0, 0).file(), 1);
        int[] sizes = Build.join(Build.same(254, 0), Build.bytes(8));
        valuesAre(Tables.bare(255, 1).with(Build.SIZES, Build.join(Build.bytes(0, 255), sizes)).file(), 1, sizes);
    }

    private static void sizesFixed() {
        due.sentence("if FIXED is not 0, nothing more, and each of the N samples has the size FIXED");
        valuesAre(Tables.plain().with(Build.SIZES, 1, 3).file(), 1, 1, 1, 1);
        valuesAre(withMuchData(Tables.plain().with(Build.SIZES, 255, 3).with(Build.PLACES, 1, 4)), 1, 255, 255, 255);
        valuesAre(Tables.ofNothing().with(Build.SIZES, 255, 0).file(), 1);
        due.is("a size more", Tables.plain().with(Build.SIZES, 1, 3, 1).check(), 4);
        due.is("all sizes too", Tables.plain().with(Build.SIZES, 1, 3, 1, 1, 1).check(), 4);
    }

    private static void numberOfSamples() {
        due.sentence("N is the number of samples of the track.");
        due.is("samples(0) of none", Tables.ofNothing().file().samples(0), 0);
        for (int n : new int[] {1, 2, 127, 128, 254, 255}) {
            MovieBoxes x = Tables.bare(n, 1).file();
            due.is("samples(0) of " + n, x.samples(0), n);
            due.is("the last sample of " + n, x.sample(0, n - 1, 2), n - 1);
            due.is("behind the last of " + n, x.sample(0, n, 2), NONE);
        }
    }

    private static void numberOfRows() {
        due.sentence("The payload of every other table is one byte, the number of its rows, and then the rows.");
        due.is("no rows", Tables.ofNothing().with(Build.SHIFTS, 0).with(Build.SYNCS, 0).with(Build.EDITS, 0).check(), 0);
        due.is("no rows of wide places", Tables.ofNothing().with(Build.WIDE, 0).check(), 0);
        due.is("one row each", Tables.plain().with(Build.SHIFTS, 1, 3, 0).with(Build.SYNCS, 1, 1).with(Build.EDITS, 1, 0, 0).check(), 0);
        Tables two = Tables.plain().with(Build.SHIFTS, 2, 1, 0, 2, 0).with(Build.SYNCS, 2, 1, 2).with(Build.EDITS, 2, 0, 0, 0, 0);
        due.is("two rows each", two.with(Build.DURATIONS, 2, 1, 9, 2, 9).with(Build.CHUNKS, 2, 1, 1, 0, 2, 2, 0)
            .with(Build.PLACES, 2, 2, 2).check(), 0);
    }

    private static int[] rows(int n, int... row) {
        int[] all = Build.bytes(n);
        for (int i = 0; i < n; i++) {
            all = Build.join(all, row);
        }
        return all;
    }

    private static void mostRows() {
        due.sentence("The payload of every other table is one byte, the number of its rows, and then the rows.", "255 rows");
        MovieBoxes x = Tables.bare(255, 1).with(Build.DURATIONS, rows(255, 1, 2)).file();
        due.is("the last of 255 durations", x.sample(0, 254, 2), 508);
        int[] numbers = Build.bytes(255);
        for (int i = 1; i <= 255; i++) {
            numbers = Build.join(numbers, Build.bytes(i));
        }
        MovieBoxes synced = Tables.bare(255, 1).with(Build.SYNCS, numbers).file();
        due.is("check() with 255 syncs", synced.check(), 0);
        due.is("the last of 255 syncs", synced.sample(0, 254, 4), 1);
        MovieBoxes edited = Tables.bare(1, 3).with(Build.EDITS, rows(255, 2, 2)).file();
        due.is("check() with 255 edits", edited.check(), 0);
        due.is("in the last of 255 edits", edited.shown(0, 508), 0);
        due.is("behind the last of 255 edits", edited.shown(0, 510), NONE);
        Tables places = Tables.bare(255, 1).with(Build.CHUNKS, 1, 1, 1, 9).with(Build.PLACES, rows(255, 6));
        due.is("the last of 255 chunks", places.file().sample(0, 254, 0), 6);
        Tables wide = Tables.bare(255, 1).with(Build.SIZES, 1, 255).with(Build.CHUNKS, 1, 1, 1, 9).with(Build.WIDE, rows(255, 0, 7));
        due.is("the last of 255 chunks, wide", wide.file().sample(0, 254, 0), 7);
    }

    private static void durations() {
        due.sentence("A row of DURATIONS is a count and a duration: the next count samples last so long each.");
        valuesAre(Tables.plain().with(Build.DURATIONS, 2, 1, 5, 2, 7).file(), 2, 0, 5, 12);
        valuesAre(Tables.plain().with(Build.DURATIONS, 2, 2, 5, 1, 7).file(), 2, 0, 5, 10);
        valuesAre(Tables.plain().with(Build.DURATIONS, 5, 0, 9, 1, 255, 0, 9, 2, 0, 0, 9).file(), 2, 0, 255, 255);
        due.is("the last of 255", Tables.bare(255, 255).file().sample(0, 254, 2), 64770);
        MovieBoxes x = Tables.plain().with(Build.DURATIONS, 2, 2, 5, 1, 7).file();
        due.is("the last one lasts 7", x.shown(0, 16), 2);
        due.is("and no longer", x.shown(0, 17), NONE);
    }

    private static void shifts() {
        due.sentence("A row of SHIFTS is a count and a shift, which is a signed byte (-128 .. 127), likewise.");
        Tables still = Tables.plain().with(Build.DURATIONS, 1, 3, 0);
        valuesAre(still.with(Build.SHIFTS, 3, 1, 0, 1, 1, 1, 126).file(), 3, 0, 1, 126);
        valuesAre(still.with(Build.SHIFTS, 3, 1, 127, 1, 128, 1, 129).file(), 3, 127, -128, -127);
        valuesAre(still.with(Build.SHIFTS, 2, 1, 254, 2, 255).file(), 3, -2, -1, -1);
        valuesAre(still.with(Build.SHIFTS, 5, 0, 9, 2, 4, 0, 9, 1, 6, 0, 9).file(), 3, 4, 4, 6);
        due.is("the last of 255", Tables.bare(255, 255).with(Build.SHIFTS, 1, 255, 127).file().sample(0, 254, 3), 64897);
    }

    private static void narrowPlaces() {
        due.sentence("A row of PLACES is one byte, of WIDE PLACES a number of two bytes: the place of the first byte of a "
            + "CHUNK", "one byte");
        for (int place : new int[] {4, 127, 128, 254, 255}) {
            due.is("the place " + place, withMuchData(Tables.plain().with(Build.PLACES, 1, place)).sample(0, 0, 0), place);
        }
    }

    private static void widePlaces() {
        due.sentence("A row of PLACES is one byte, of WIDE PLACES a number of two bytes: the place of the first byte of a "
            + "CHUNK", "two bytes");
        for (int place : new int[] {4, 255, 256, 257, 511, 512, 900, 901}) {
            MovieBoxes x = withMuchData(Tables.plain().with(Build.WIDE, 1, place / 256, place % 256));
            due.is("the place " + place, x.sample(0, 0, 0), place);
        }
        MovieBoxes last = Build.file(Tables.bare(1, 1).with(Build.WIDE, 1, 3, 232).movie(),
            Build.longBox(Build.DATA, Build.same(971, 1)));
        due.is("length()", last.length(), 1000);
        due.is("the place 1000", last.sample(0, 0, 0), 1000);
    }

    private static void chunksFromOne() {
        due.sentence("chunks are numbered from 1, one for each row");
        Tables tables = Tables.plain().with(Build.CHUNKS, 3, 1, 1, 11, 2, 1, 12, 3, 1, 13).with(Build.PLACES, 3, 9, 2, 5);
        valuesAre(tables.file(), 0, 9, 2, 5);
        valuesAre(tables.file(), 5, 11, 12, 13);
        due.is("a chunk 0", Tables.plain().with(Build.CHUNKS, 1, 0, 3, 7).check(), 4);
        due.is("a chunk 2 of 1", Tables.plain().with(Build.CHUNKS, 2, 1, 3, 7, 2, 3, 7).check(), 5);
    }

    private static void chunkRows() {
        due.sentence("A row of CHUNKS is three bytes, first, many, description: each chunk from number first on, up to the "
            + "chunk before the first of the next row (or the last chunk of all), "
            + "has so many samples with that description");
        Tables tables = Tables.bare(8, 1).with(Build.SIZES, 1, 8).with(Build.PLACES, 5, 2, 2, 2, 2, 2);
        valuesAre(tables.with(Build.CHUNKS, 2, 1, 1, 0, 3, 2, 255).file(), 5, 0, 0, 255, 255, 255, 255, 255, 255);
        valuesAre(tables.file(), 0, 2, 2, 2, 3, 2, 3, 2, 3);
        valuesAre(tables.with(Build.CHUNKS, 3, 1, 1, 4, 4, 3, 5, 5, 2, 6).file(), 5, 4, 4, 4, 5, 5, 5, 6, 6);
        valuesAre(tables.with(Build.CHUNKS, 2, 1, 1, 4, 5, 4, 5).file(), 5, 4, 4, 4, 4, 5, 5, 5, 5);
        valuesAre(tables.with(Build.CHUNKS, 2, 1, 4, 4, 2, 1, 5).file(), 5, 4, 4, 4, 4, 5, 5, 5, 5);
        due.is("many = 255", Tables.bare(255, 1).file().sample(0, 254, 5), 7);
    }

    private static void samplesFillChunks() {
        due.sentence("The samples of the track, in order, fill the chunks in order");
        Tables tables = Tables.bare(5, 1).with(Build.SIZES, 0, 5, 1, 2, 3, 2, 1).with(Build.PLACES, 3, 7, 2, 5);
        valuesAre(tables.with(Build.CHUNKS, 2, 1, 1, 1, 2, 2, 2).file(), 0, 7, 2, 4, 5, 7);
        due.is("chunks at one place", tables.with(Build.PLACES, 3, 2, 2, 2).file().sample(0, 3, 0), 2);
        due.is("the place of chunk 3", tables.with(Build.PLACES, 3, 2, 2, 6).file().sample(0, 4, 0), 8);
    }

    private static void samplesLieBehindOneAnother() {
        due.sentence("in a chunk they lie one behind the other");
        valuesAre(Tables.plain().with(Build.SIZES, 2, 3).file(), 0, 2, 4, 6);
        valuesAre(Tables.plain().with(Build.SIZES, 0, 3, 5, 0, 3).file(), 0, 2, 7, 7);
        valuesAre(Tables.plain().with(Build.SIZES, 0, 3, 0, 8, 0).file(), 0, 2, 2, 10);
        MovieBoxes x = withMuchData(Tables.plain().with(Build.SIZES, 255, 3).with(Build.PLACES, 1, 139));
        valuesAre(x, 0, 139, 394, 649);
    }

    private static void syncs() {
        due.sentence("A row of SYNCS is one byte, the number (from 1) of a sample that is a SYNC sample");
        valuesAre(Tables.plain().with(Build.SYNCS, 1, 1).file(), 4, 1, 0, 0);
        valuesAre(Tables.plain().with(Build.SYNCS, 1, 3).file(), 4, 0, 0, 1);
        valuesAre(Tables.plain().with(Build.SYNCS, 2, 1, 3).file(), 4, 1, 0, 1);
        valuesAre(Tables.plain().with(Build.SYNCS, 3, 1, 2, 3).file(), 4, 1, 1, 1);
        valuesAre(Tables.plain().with(Build.SYNCS, 0).file(), 4, 0, 0, 0);
        MovieBoxes last = Build.file(Build.box(Build.DATA, Build.counting(8)), Build.box(Build.MOVIE,
            Tables.plain().with(Build.SYNCS, 1, 1).track(Build.bytes(3, 2, 2))));
        due.is("the byte behind the table is no row", last.sample(0, 2, 4), 0);
        MovieBoxes x = Tables.bare(255, 1).with(Build.SYNCS, 2, 128, 255).file();
        due.is("the number 255", x.sample(0, 254, 4), 1);
        due.is("the number 254", x.sample(0, 253, 4), 0);
        due.is("the number 128", x.sample(0, 127, 4), 1);
    }

    private static void withoutSyncs() {
        due.sentence("without a table SYNCS all are");
        valuesAre(Tables.plain().file(), 4, 1, 1, 1);
        MovieBoxes x = Build.file(Build.box(Build.DATA, Build.counting(8)), Build.box(Build.MOVIE,
            Tables.plain().with(Build.SYNCS, 0).track(), Tables.plain().track()));
        due.is("in the other track", x.sample(1, 2, 4), 1);
        due.is("in the track with an empty table", x.sample(0, 2, 4), 0);
    }

    private static void edits() {
        due.sentence("A row of EDITS is two bytes, a duration and a media time.");
        MovieBoxes x = Tables.plain().with(Build.EDITS, 1, 2, 19).file();
        due.is("shown(0, 0)", x.shown(0, 0), 1);
        due.is("shown(0, 1)", x.shown(0, 1), 2);
        due.is("shown(0, 2)", x.shown(0, 2), NONE);
    }
}
