import java.util.LinkedHashMap;
import java.util.Map;

/**
 * The tables of a track: to begin with one chunk of three samples of one byte, ten long each, at
 * place 2. Any table can be put in the place of its like, added or left out.
 */
final class Tables {
    private final Map<Integer, int[]> payloads = new LinkedHashMap<>();

    static Tables plain() {
        Tables tables = new Tables();
        tables.with(Build.DURATIONS, 1, 3, 10).with(Build.CHUNKS, 1, 1, 3, 7);
        return tables.with(Build.SIZES, 1, 3).with(Build.PLACES, 1, 2);
    }

    /** Tables without a chunk or a sample. */
    static Tables ofNothing() {
        Tables tables = new Tables();
        tables.with(Build.DURATIONS, 0).with(Build.CHUNKS, 0);
        return tables.with(Build.SIZES, 0, 0).with(Build.PLACES, 0);
    }

    /** One chunk at place 2 with n samples without bytes, each as long as said. */
    static Tables bare(int n, int duration) {
        Tables tables = new Tables();
        tables.with(Build.DURATIONS, 1, n, duration).with(Build.CHUNKS, 1, 1, n, 7);
        return tables.with(Build.SIZES, Build.join(Build.bytes(0, n), Build.same(n, 0))).with(Build.PLACES, 1, 2);
    }

    Tables with(int type, int... payload) {
        if (type == Build.PLACES) {
            payloads.remove(Build.WIDE);
        }
        if (type == Build.WIDE) {
            payloads.remove(Build.PLACES);
        }
        payloads.put(type, payload);
        return this;
    }

    Tables without(int type) {
        payloads.remove(type);
        return this;
    }

    int[] track(int[]... more) {
        int[] all = new int[0];
        for (Map.Entry<Integer, int[]> table : payloads.entrySet()) {
            all = Build.join(all, Build.fit(table.getKey(), table.getValue()));
        }
        return Build.fit(Build.TRACK, all, Build.join(more));
    }

    int[] movie(int[]... more) {
        return Build.fit(Build.MOVIE, track(), Build.join(more));
    }

    /** A DATA box with the bytes 1 .. 8 at places 2 .. 9, and then the MOVIE with this track. */
    MovieBoxes file(int[]... more) {
        return Build.file(Build.box(Build.DATA, Build.counting(8)), movie(), Build.join(more));
    }

    int check() {
        return file().check();
    }
}
