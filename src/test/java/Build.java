import java.util.Arrays;

/** Makes the bytes of boxes, and objects that hold them. */
final class Build {
    static final int MOVIE = 77;
    static final int DATA = 68;
    static final int TRACK = 84;
    static final int DURATIONS = 115;
    static final int SHIFTS = 99;
    static final int CHUNKS = 107;
    static final int SIZES = 122;
    static final int PLACES = 111;
    static final int WIDE = 79;
    static final int SYNCS = 121;
    static final int EDITS = 101;
    static final int FREE = 32;

    private Build() {
    }

    static int[] join(int[]... parts) {
        int[] all = new int[0];
        for (int[] part : parts) {
            int at = all.length;
            all = Arrays.copyOf(all, at + part.length);
            System.arraycopy(part, 0, all, at, part.length);
        }
        return all;
    }

    static int[] bytes(int... values) {
        return values;
    }

    static int[] same(int n, int value) {
        int[] row = new int[n];
        Arrays.fill(row, value);
        return row;
    }

    /** 1, 2, 3, .. so that moved bytes can be told apart. */
    static int[] counting(int n) {
        int[] row = new int[n];
        for (int i = 0; i < n; i++) {
            row[i] = (i + 1) % 251;
        }
        return row;
    }

    static int[] box(int type, int[]... payload) {
        int[] all = join(payload);
        return join(bytes(all.length + 2, type), all);
    }

    static int[] table(int type, int... payload) {
        return box(type, payload);
    }

    static int[] longBox(int type, int[]... payload) {
        int[] all = join(payload);
        int size = all.length + 4;
        return join(bytes(1, type, size / 256, size % 256), all);
    }

    /** A box with the shortest header that its length allows. */
    static int[] fit(int type, int[]... payload) {
        return join(payload).length + 2 > 255 ? longBox(type, payload) : box(type, payload);
    }

    /** n boxes of two bytes. */
    static int[] empties(int n) {
        int[] all = new int[0];
        for (int i = 0; i < n; i++) {
            all = join(all, bytes(2, FREE));
        }
        return all;
    }

    static int[] openBox(int type, int[]... payload) {
        return join(bytes(0, type), join(payload));
    }

    /** The boxes of a track with one chunk of three samples of one byte, ten long each. */
    static int[] plainTables(int place) {
        return join(table(DURATIONS, 1, 3, 10), table(CHUNKS, 1, 1, 3, 7), table(SIZES, 1, 3), table(PLACES, 1, place));
    }

    static int[] plainTrack(int place) {
        return box(TRACK, plainTables(place));
    }

    static MovieBoxes file(int[]... parts) {
        MovieBoxes x = new MovieBoxes();
        int[] all = join(parts);
        if (all.length > 1000) {
            throw new IllegalArgumentException("a test asks for a file of " + all.length + " bytes");
        }
        int p = 0;
        while (p < all.length) {
            long word = 0;
            int n = 0;
            while (n < 8 && p < all.length) {
                word = word << 8 | all[p];
                n++;
                p++;
            }
            x.append(word, n);
        }
        return x;
    }
}
