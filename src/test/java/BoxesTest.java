/** Promises 8 and 9: boxes and box. */
public final class BoxesTest {
    private static final int NONE = MovieBoxes.NONE;
    private static final Due due = new Due();

    public static void main(String[] args) {
        allKindsOfHeaders();
        otherPlaces();
        noSuchBox();
        withFaults();
        due.end();
    }

    private static void boxIs(MovieBoxes x, int k, int... want) {
        for (int what = 0; what < 6; what++) {
            due.is("box(" + k + ", " + what + ")", x.box(k, what), want[what]);
        }
    }

    private static void allKindsOfHeaders() {
        MovieBoxes x = Build.file(
            Build.longBox(Build.DATA, Build.same(300, 1)),
            Build.longBox(Build.MOVIE,
                Build.box(Build.FREE, Build.bytes(1, 2)),
                Build.longBox(Build.TRACK, Build.table(Build.DURATIONS, 0), Build.longBox(Build.SIZES, Build.bytes(1, 0)),
                    Build.table(Build.CHUNKS, 0), Build.table(Build.PLACES, 0)),
                Build.box(200)),
            Build.openBox(0, Build.bytes(5, 6, 7)));
        due.is("check()", x.check(), 0);
        due.is("boxes()", x.boxes(), 10);
        boxIs(x, 0, 0, 304, 68, 4, 0, -1);
        boxIs(x, 1, 304, 29, 77, 4, 0, -1);
        boxIs(x, 2, 308, 4, 32, 2, 1, 1);
        boxIs(x, 3, 312, 19, 84, 4, 1, 1);
        boxIs(x, 4, 316, 3, 115, 2, 2, 3);
        boxIs(x, 5, 319, 6, 122, 4, 2, 3);
        boxIs(x, 6, 325, 3, 107, 2, 2, 3);
        boxIs(x, 7, 328, 3, 111, 2, 2, 3);
        boxIs(x, 8, 331, 2, 200, 2, 1, 1);
        boxIs(x, 9, 333, 5, 0, 2, 0, -1);
    }

    private static void otherPlaces() {
        int[] inner = Build.box(Build.FREE, Build.box(Build.FREE));
        MovieBoxes x = Build.file(Build.box(Build.TRACK, inner), Build.box(Build.MOVIE, Build.box(Build.DATA, inner),
            Build.box(Build.MOVIE, inner), Build.box(Build.TRACK, Build.box(Build.TRACK, inner))));
        due.is("boxes() that are read", x.boxes(), 6);
        boxIs(x, 0, 0, 6, 84, 2, 0, -1);
        boxIs(x, 2, 8, 6, 68, 2, 1, 1);
        boxIs(x, 3, 14, 6, 77, 2, 1, 1);
        boxIs(x, 4, 20, 8, 84, 2, 1, 1);
        boxIs(x, 5, 22, 6, 84, 2, 2, 4);
        MovieBoxes y = Build.file(Build.openBox(Build.MOVIE, Build.box(Build.TRACK), Build.box(Build.TRACK)));
        due.is("boxes() in an open movie", y.boxes(), 3);
        boxIs(y, 0, 0, 6, 77, 2, 0, -1);
        boxIs(y, 2, 4, 2, 84, 2, 1, 0);
    }

    private static void noSuchBox() {
        MovieBoxes x = Build.file(Build.box(Build.FREE, Build.bytes(1)));
        int[] bad = {-1, 1, 20, 100, Integer.MIN_VALUE, Integer.MAX_VALUE};
        for (int k : bad) {
            due.is("box(" + k + ", 0)", x.box(k, 0), NONE);
        }
        int[] badWhat = {-1, 6, 7, Integer.MIN_VALUE, Integer.MAX_VALUE};
        for (int what : badWhat) {
            due.is("box(0, " + what + ")", x.box(0, what), NONE);
        }
        due.is("box(0, 1)", x.box(0, 1), 3);
        due.is("box(0, 0) of the empty file", new MovieBoxes().box(0, 0), NONE);
    }

    private static void withFaults() {
        MovieBoxes x = Build.file(Build.box(Build.FREE), Build.bytes(2));
        due.is("boxes() with the fault 1", x.boxes(), NONE);
        due.is("box(0, 0) with the fault 1", x.box(0, 0), NONE);
        x.append(32, 1);
        due.is("boxes() with the fault 3", x.boxes(), 2);
        due.is("box(1, 0) with the fault 3", x.box(1, 0), 2);
        for (int i = 0; i < 18; i++) {
            x.append(2 * 256 + 32, 2);
        }
        due.is("20 boxes()", x.boxes(), 20);
        due.is("box(19, 0)", x.box(19, 0), 38);
        x.append(2 * 256 + 32, 2);
        due.is("boxes() with the fault 2", x.boxes(), NONE);
        due.is("box(0, 0) with the fault 2", x.box(0, 0), NONE);
        int[] media = Build.box(Build.DATA, Build.same(3, 1));
        MovieBoxes six = Build.file(media, Build.box(Build.MOVIE, Build.plainTrack(1)));
        due.is("check()", six.check(), 6);
        due.is("boxes() with the fault 6", six.boxes(), 7);
        due.is("box(6, 2) with the fault 6", six.box(6, 2), 111);
    }
}
