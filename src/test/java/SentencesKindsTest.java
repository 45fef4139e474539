/** What the document says of KINDS: each sentence with an edge has a test. */
public final class SentencesKindsTest {
    private static final int[] MEDIA = Build.box(Build.DATA, Build.counting(8));
    private static final int[] NEEDED = {Build.DURATIONS, Build.CHUNKS, Build.SIZES, Build.PLACES, Build.WIDE};
    private static final int[] OPTIONAL = {Build.SHIFTS, Build.SYNCS, Build.EDITS};
    private static final Due due = new Due();

    public static void main(String[] args) {
        movieAndData();
        track();
        tables();
        otherAtTheTop();
        otherInAMovie();
        otherInATrack();
        nothingIsReadInOther();
        numbersOfBoxes();
        due.end();
    }

    private static boolean isIn(int[] types, int type) {
        for (int one : types) {
            if (one == type) {
                return true;
            }
        }
        return false;
    }

    private static void movieAndData() {
        due.sentence("At the top level type 77 is MOVIE and 68 is DATA.");
        int[] body = Tables.plain().track();
        for (int type = 0; type < 256; type++) {
            boolean isMovie = type == 77;
            MovieBoxes x = Build.file(MEDIA, Build.box(type, body));
            due.is("check() with type " + type + " for the movie", x.check(), isMovie ? 0 : 3);
            due.is("boxes() with type " + type + " for the movie", x.boxes(), isMovie ? 7 : 2);
            if (!isMovie) {
                MovieBoxes y = Build.file(Build.box(type, Build.same(8, 2)), Tables.plain().movie());
                due.is("check() with type " + type + " for the data", y.check(), type == 68 ? 0 : 6);
            }
        }
    }

    private static void track() {
        due.sentence("Directly in a MOVIE, 84 is TRACK.");
        int[] body = Tables.plain().track();
        for (int type = 0; type < 256; type++) {
            boolean isTrack = type == 84;
            int[] inMovie = body.clone();
            inMovie[1] = type;
            MovieBoxes x = Build.file(MEDIA, Build.box(Build.MOVIE, inMovie));
            due.is("check() with type " + type, x.check(), isTrack ? 0 : 3);
            due.is("boxes() with type " + type, x.boxes(), isTrack ? 7 : 3);
        }
        due.is("a track at the top", Build.file(MEDIA, body).check(), 3);
        due.is("a track in a track", Build.file(MEDIA, Build.box(Build.MOVIE, Build.box(Build.TRACK, body))).check(), 3);
    }

    /** The plain tables, or with wide places, of which one has another type. */
    private static int checkRetyped(int type, int instead) {
        int[] durations = Build.table(type == Build.DURATIONS ? instead : Build.DURATIONS, 1, 3, 10);
        int[] chunks = Build.table(type == Build.CHUNKS ? instead : Build.CHUNKS, 1, 1, 3, 7);
        int[] sizes = Build.table(type == Build.SIZES ? instead : Build.SIZES, 1, 3);
        int[] narrow = Build.table(type == Build.PLACES ? instead : Build.PLACES, 1, 2);
        int[] wide = Build.table(type == Build.WIDE ? instead : Build.WIDE, 1, 0, 2);
        int[] places = type == Build.WIDE ? wide : narrow;
        return Build.file(MEDIA, Build.box(Build.MOVIE, Build.box(Build.TRACK, durations, chunks, sizes, places))).check();
    }

    private static void tables() {
        due.sentence("Directly in a TRACK, 115 is DURATIONS, 99 SHIFTS, 107 CHUNKS, 122 SIZES, 111 PLACES, 79 WIDE PLACES, "
            + "121 SYNCS, 101 EDITS: these eight are TABLES.");
        for (int type : NEEDED) {
            due.is("check() with " + type, checkRetyped(type, type), 0);
            for (int instead = 0; instead < 256; instead++) {
                boolean isOfPlaces = (type == Build.PLACES || type == Build.WIDE) && isIn(NEEDED, instead);
                if (instead != type && !isOfPlaces) {
                    due.is("check() with " + instead + " for " + type, checkRetyped(type, instead), 3);
                }
            }
        }
        due.is("narrow rows in wide places", checkRetyped(Build.PLACES, Build.WIDE), 4);
        due.is("wide rows in narrow places", checkRetyped(Build.WIDE, Build.PLACES), 4);
        MovieBoxes x = Tables.plain().with(Build.SHIFTS, 1, 3, 5).with(Build.SYNCS, 1, 2).with(Build.EDITS, 1, 1, 0).file();
        due.is("99 is shifts", x.sample(0, 0, 3), 5);
        due.is("121 is syncs", x.sample(0, 0, 4), 0);
        due.is("101 is edits", x.shown(0, 7), MovieBoxes.NONE);
    }

    private static void otherAtTheTop() {
        due.sentence("Every other type, and any of these at another place, is OTHER", "at the top level");
        for (int type = 0; type < 256; type++) {
            if (type != Build.MOVIE) {
                MovieBoxes x = Tables.plain().file(Build.box(type, Build.bytes(7)));
                due.is("check() with type " + type, x.check(), 0);
                due.is("boxes() with type " + type, x.boxes(), 8);
            }
        }
    }

    private static void otherInAMovie() {
        due.sentence("Every other type, and any of these at another place, is OTHER", "in a MOVIE");
        for (int type = 0; type < 256; type++) {
            MovieBoxes x = Build.file(MEDIA, Tables.plain().movie(Build.box(type, Build.bytes(7))));
            due.is("check() with type " + type, x.check(), type == Build.TRACK ? 1 : 0);
        }
        int[] track = Tables.plain().with(Build.PLACES, 1, 4).track();
        due.is("data in a movie", Build.file(Build.box(Build.MOVIE, Build.box(Build.DATA, Build.same(8, 1)), track)).check(), 6);
        due.is("a movie in a movie", Build.file(MEDIA, Tables.plain().movie(Tables.plain().movie())).tracks(), 1);
    }

    private static void otherInATrack() {
        due.sentence("Every other type, and any of these at another place, is OTHER", "in a TRACK");
        for (int type = 0; type < 256; type++) {
            int want = isIn(NEEDED, type) ? 3 : isIn(OPTIONAL, type) ? 4 : 0;
            MovieBoxes x = Build.file(MEDIA, Build.box(Build.MOVIE, Tables.plain().track(Build.box(type, Build.bytes(7)))));
            due.is("check() with type " + type, x.check(), want);
        }
        int[] inside = Build.box(Build.DATA, Build.same(8, 1));
        due.is("data in a track", Build.file(Build.box(Build.MOVIE, Build.box(Build.TRACK, inside, Build.plainTables(6)))).check(), 6);
    }

    private static void nothingIsReadInOther() {
        due.sentence("its payload is any bytes, and nothing is read in it");
        int[][] payloads = {Build.bytes(), Build.bytes(0), Build.bytes(255), Build.bytes(0, 0), Build.bytes(1, 1, 0, 0),
            Build.bytes(255, 77), Build.empties(30), Tables.plain().movie(), Tables.plain().track(), MEDIA};
        for (int[] payload : payloads) {
            int[] free = Build.box(Build.FREE, payload);
            due.is("boxes() at the top", Tables.plain().file(free).boxes(), 8);
            due.is("check() at the top", Tables.plain().file(free).check(), 0);
            MovieBoxes inMovie = Build.file(MEDIA, Tables.plain().movie(free));
            due.is("boxes() in a movie", inMovie.boxes(), 8);
            due.is("check() in a movie", inMovie.check(), 0);
            MovieBoxes inTrack = Build.file(MEDIA, Build.box(Build.MOVIE, Tables.plain().track(free)));
            due.is("boxes() in a track", inTrack.boxes(), 8);
            due.is("check() in a track", inTrack.check(), 0);
        }
        due.is("nor in data", Build.file(Build.box(Build.DATA, Build.empties(30)), Tables.plain().movie()).boxes(), 7);
    }

    private static void numbersOfBoxes() {
        due.sentence("Boxes are numbered 0, 1, .. by the place of their first byte.");
        int[] inside = Build.join(Build.bytes(2, 10), Build.box(Build.TRACK, Build.bytes(2, 11), Build.bytes(3, 12, 0)),
            Build.bytes(2, 13), Build.box(Build.TRACK, Build.bytes(2, 14)), Build.bytes(2, 15));
        MovieBoxes x = Build.file(Build.bytes(2, 16), Build.box(Build.MOVIE, inside), Build.bytes(2, 17),
            Build.box(Build.MOVIE, Build.bytes(2, 18)), Build.bytes(2, 19));
        int[] types = {16, 77, 10, 84, 11, 12, 13, 84, 14, 15, 17, 77, 18, 19};
        int[] places = {0, 2, 4, 6, 8, 10, 13, 15, 17, 19, 21, 23, 25, 27};
        due.is("boxes()", x.boxes(), types.length);
        for (int k = 0; k < types.length; k++) {
            due.is("box(" + k + ", 2)", x.box(k, 2), types[k]);
            due.is("box(" + k + ", 0)", x.box(k, 0), places[k]);
        }
    }
}
