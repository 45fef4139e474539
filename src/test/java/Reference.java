import java.util.ArrayList;
import java.util.Arrays;
import java.util.HashSet;
import java.util.List;
import java.util.Set;
import java.util.function.IntUnaryOperator;

/**
 * A second reading of the document, on trees and lists and without any state but the bytes: slower,
 * and written apart from the class that it is compared with.
 */
final class Reference {
    static final int NONE = -1000;
    private static final List<Integer> TABLES = List.of(115, 99, 107, 122, 111, 79, 121, 101);

    /** A box and the boxes in it. */
    private static final class Node {
        int mark;
        int place;
        int size;
        int type;
        int header;
        int level;
        Node holder;
        boolean isRead;
        final List<Node> inside = new ArrayList<>();

        boolean is(int kind) {
            if (type != kind) {
                return false;
            }
            int due = kind == 77 || kind == 68 ? 0 : kind == 84 ? 1 : 2;
            return level == due;
        }

        int body() {
            return place + header;
        }

        int end() {
            return place + size;
        }
    }

    private static final class Fault extends Exception {
        private static final long serialVersionUID = 1L;
        final int number;

        Fault(int number) {
            this.number = number;
        }
    }

    private static final class Sample {
        int place;
        int size;
        int duration;
        int decode;
        int shift;
        int sync;
        int description;
    }

    private int[] bytes;
    private final List<Node> all = new ArrayList<>();
    private final List<Node> top = new ArrayList<>();
    private int fault;
    /** What the last fastStart did, for counting what a test has met. */
    int becameWide;
    int grownHeaders;
    boolean moved;

    Reference(int[] bytes) {
        read(bytes);
    }

    private void read(int[] now) {
        bytes = now;
        all.clear();
        top.clear();
        fault = 0;
        try {
            readRow(0, bytes.length, null, top);
            findFault();
        } catch (Fault f) {
            fault = f.number;
        }
    }

    private void readRow(int from, int to, Node holder, List<Node> row) throws Fault {
        int p = from;
        while (p < to) {
            if (all.size() == 20) {
                throw new Fault(2);
            }
            Node node = readNode(p, to, holder);
            all.add(node);
            row.add(node);
            if (node.is(77) || node.is(84)) {
                node.isRead = true;
                readRow(node.body(), node.end(), node, node.inside);
            }
            p = node.end();
        }
    }

    private Node readNode(int p, int to, Node holder) throws Fault {
        Node node = new Node();
        node.place = p;
        node.holder = holder;
        node.level = holder == null ? 0 : holder.level + 1;
        node.mark = bytes[p];
        node.header = node.mark == 1 ? 4 : 2;
        if (p + node.header > to || node.mark == 0 && holder != null) {
            throw new Fault(1);
        }
        node.type = bytes[p + 1];
        node.size = node.mark;
        if (node.mark == 0) {
            node.size = to - p;
        } else if (node.mark == 1) {
            node.size = (bytes[p + 2] << 8) + bytes[p + 3];
        }
        if (node.size < node.header || node.end() > to) {
            throw new Fault(1);
        }
        return node;
    }

    private static List<Node> of(List<Node> row, int... kinds) {
        List<Node> found = new ArrayList<>();
        for (Node node : row) {
            for (int kind : kinds) {
                if (node.is(kind)) {
                    found.add(node);
                }
            }
        }
        return found;
    }

    private List<Node> trackNodes() {
        return of(of(top, 77).get(0).inside, 84);
    }

    private void findFault() throws Fault {
        findKinds();
        for (Node track : trackNodes()) {
            for (Node table : track.inside) {
                if (TABLES.contains(table.type) && !rowsAreGood(table)) {
                    throw new Fault(4);
                }
            }
        }
        for (Node track : trackNodes()) {
            findCounts(track);
        }
        for (Node track : trackNodes()) {
            for (int[] chunk : chunksOf(track)) {
                if (dataOf(chunk[0], chunk[1]) == null) {
                    throw new Fault(6);
                }
            }
        }
    }

    private void findKinds() throws Fault {
        if (of(top, 77).size() != 1) {
            throw new Fault(3);
        }
        List<Node> tracks = trackNodes();
        if (tracks.isEmpty() || tracks.size() > 2) {
            throw new Fault(3);
        }
        for (Node track : tracks) {
            for (int kind : new int[] {115, 107, 122}) {
                if (of(track.inside, kind).size() != 1) {
                    throw new Fault(3);
                }
            }
            for (int kind : new int[] {99, 121, 101}) {
                if (of(track.inside, kind).size() > 1) {
                    throw new Fault(3);
                }
            }
            if (of(track.inside, 111, 79).size() != 1) {
                throw new Fault(3);
            }
        }
    }

    private boolean rowsAreGood(Node table) {
        int[] body = Arrays.copyOfRange(bytes, table.body(), table.end());
        if (table.type == 122) {
            return body.length >= 2 && body.length == (body[0] == 0 ? 2 + body[1] : 2);
        }
        int width = table.type == 107 ? 3 : table.type == 111 || table.type == 121 ? 1 : 2;
        if (body.length < 1 || body.length != 1 + body[0] * width) {
            return false;
        }
        int last = 0;
        for (int row = 0; row < body[0]; row++) {
            int first = body[1 + row * width];
            if ((table.type == 107 || table.type == 121) && first <= last) {
                return false;
            }
            last = first;
            if (table.type == 107 && (row == 0 && first != 1 || body[2 + row * 3] == 0)) {
                return false;
            }
        }
        return true;
    }

    /** The rows of a table, each as its bytes; null if the track has no such table. */
    private List<int[]> rows(Node track, int kind) {
        List<Node> found = of(track.inside, kind);
        if (found.isEmpty()) {
            return null;
        }
        Node table = found.get(0);
        int width = kind == 107 ? 3 : kind == 111 || kind == 121 ? 1 : 2;
        List<int[]> rows = new ArrayList<>();
        for (int p = table.body() + 1; p < table.end(); p += width) {
            rows.add(Arrays.copyOfRange(bytes, p, p + width));
        }
        return rows;
    }

    private List<Integer> sizesOf(Node track) {
        Node table = of(track.inside, 122).get(0);
        int fixed = bytes[table.body()];
        List<Integer> sizes = new ArrayList<>();
        for (int k = 0; k < bytes[table.body() + 1]; k++) {
            sizes.add(fixed != 0 ? fixed : bytes[table.body() + 2 + k]);
        }
        return sizes;
    }

    private List<Integer> placesOf(Node track) {
        List<Integer> places = new ArrayList<>();
        List<int[]> narrow = rows(track, 111);
        for (int[] row : narrow != null ? narrow : rows(track, 79)) {
            places.add(row.length == 1 ? row[0] : row[0] * 256 + row[1]);
        }
        return places;
    }

    private static List<Integer> spelledOut(List<int[]> rows) {
        List<Integer> values = new ArrayList<>();
        for (int[] row : rows) {
            for (int i = 0; i < row[0]; i++) {
                values.add(row[1]);
            }
        }
        return values;
    }

    private void findCounts(Node track) throws Fault {
        int n = sizesOf(track).size();
        List<int[]> shifts = rows(track, 99);
        List<int[]> chunks = rows(track, 107);
        List<int[]> syncs = rows(track, 121);
        int places = placesOf(track).size();
        boolean good = spelledOut(rows(track, 115)).size() == n;
        good &= shifts == null || spelledOut(shifts).size() == n;
        good &= places == 0 || !chunks.isEmpty();
        good &= chunks.stream().allMatch(row -> row[0] <= places);
        good &= syncs == null || syncs.stream().allMatch(row -> row[0] <= n);
        if (!good) {
            throw new Fault(5);
        }
        int inChunks = 0;
        for (int c = 1; c <= places; c++) {
            inChunks += rowOfChunk(chunks, c)[1];
        }
        if (inChunks != n) {
            throw new Fault(5);
        }
    }

    private static int[] rowOfChunk(List<int[]> chunks, int c) {
        int[] found = null;
        for (int[] row : chunks) {
            if (row[0] <= c) {
                found = row;
            }
        }
        return found;
    }

    /** Place and number of bytes of each chunk. */
    private List<int[]> chunksOf(Node track) {
        List<int[]> chunks = new ArrayList<>();
        List<Integer> sizes = sizesOf(track);
        List<Integer> places = placesOf(track);
        int k = 0;
        for (int c = 1; c <= places.size(); c++) {
            int total = 0;
            for (int i = rowOfChunk(rows(track, 107), c)[1]; i > 0; i--) {
                total += sizes.get(k++);
            }
            chunks.add(new int[] {places.get(c - 1), total});
        }
        return chunks;
    }

    private Node dataOf(int place, int total) {
        for (Node data : of(top, 68)) {
            if (data.body() <= place && place + total <= data.end()) {
                return data;
            }
        }
        return null;
    }

    private List<Sample> samplesOf(Node track) {
        List<Sample> samples = new ArrayList<>();
        List<Integer> sizes = sizesOf(track);
        List<Integer> durations = spelledOut(rows(track, 115));
        List<int[]> shifts = rows(track, 99);
        List<int[]> syncs = rows(track, 121);
        int time = 0;
        for (int k = 0; k < sizes.size(); k++) {
            int number = k + 1;
            Sample s = new Sample();
            s.size = sizes.get(k);
            s.duration = durations.get(k);
            s.decode = time;
            s.shift = shifts == null ? 0 : spelledOut(shifts).get(k).byteValue();
            s.sync = syncs == null || syncs.stream().anyMatch(row -> row[0] == number) ? 1 : 0;
            time += s.duration;
            samples.add(s);
        }
        int k = 0;
        List<Integer> places = placesOf(track);
        for (int c = 1; c <= places.size(); c++) {
            int place = places.get(c - 1);
            int[] row = rowOfChunk(rows(track, 107), c);
            for (int i = 0; i < row[1]; i++) {
                samples.get(k).place = place;
                samples.get(k).description = row[2];
                place += samples.get(k).size;
                k++;
            }
        }
        return samples;
    }

    int[] bytes() {
        return bytes;
    }

    int check() {
        return fault;
    }

    int boxes() {
        return fault == 1 || fault == 2 ? NONE : all.size();
    }

    int box(int k, int what) {
        if (fault == 1 || fault == 2 || k < 0 || k >= all.size() || what < 0 || what > 5) {
            return NONE;
        }
        Node b = all.get(k);
        return new int[] {b.place, b.size, b.type, b.header, b.level, all.indexOf(b.holder)}[what];
    }

    int tracks() {
        return fault != 0 ? NONE : trackNodes().size();
    }

    /** All samples of a track; null if the file has a fault or there is no such track. */
    private List<Sample> allSamples(int track) {
        return fault != 0 || track < 0 || track >= tracks() ? null : samplesOf(trackNodes().get(track));
    }

    int samples(int track) {
        List<Sample> found = allSamples(track);
        return found == null ? NONE : found.size();
    }

    /** What sample(track, k, what) must answer for every k and the six whats. */
    int[][] sampleTable(int track) {
        List<Sample> found = allSamples(track);
        int[][] answers = new int[found.size()][];
        for (int k = 0; k < answers.length; k++) {
            Sample s = found.get(k);
            answers[k] = new int[] {s.place, s.size, s.decode, s.decode + s.shift, s.sync, s.description};
        }
        return answers;
    }

    /** What shown(track, t) must answer for t = 0 .. end - 1. */
    int[] shownTable(int track, int end) {
        List<Sample> found = allSamples(track);
        List<int[]> edits = rows(trackNodes().get(track), 101);
        List<Integer> media = new ArrayList<>();
        if (edits != null) {
            for (int[] row : edits) {
                for (int j = 0; j < row[0]; j++) {
                    media.add(row[1] == 255 ? null : Integer.valueOf(row[1] + j));
                }
            }
        }
        int[] answers = new int[end];
        for (int t = 0; t < end; t++) {
            answers[t] = NONE;
            Integer u = edits == null ? Integer.valueOf(t) : t < media.size() ? media.get(t) : null;
            for (int k = found.size() - 1; k >= 0 && u != null; k--) {
                Sample s = found.get(k);
                if (s.decode + s.shift <= u && u < s.decode + s.shift + s.duration) {
                    answers[t] = k;
                }
            }
        }
        return answers;
    }

    int fastStart() {
        moved = false;
        if (fault != 0) {
            return -1;
        }
        Node movie = of(top, 77).get(0);
        List<Node> data = of(top, 68);
        if (data.isEmpty() || movie.place < data.get(0).place) {
            return movie.size;
        }
        int[] best = null;
        Set<Node> narrow = new HashSet<>();
        for (Node track : trackNodes()) {
            narrow.addAll(of(track.inside, 111));
        }
        for (Set<Node> wide : subsetsByNumber(new ArrayList<>(narrow))) {
            best = outcome(movie, wide, narrow);
            if (best != null) {
                becameWide = wide.size();
                break;
            }
        }
        int newSize = best.length - (bytes.length - movie.size);
        if (best.length > 1000) {
            return -2;
        }
        int headersBefore = all.stream().mapToInt(b -> b.header).sum();
        read(best);
        grownHeaders = (all.stream().mapToInt(b -> b.header).sum() - headersBefore) / 2;
        moved = true;
        return newSize;
    }

    private static List<Set<Node>> subsetsByNumber(List<Node> nodes) {
        List<Set<Node>> subsets = new ArrayList<>();
        for (int number = 0; number <= nodes.size(); number++) {
            for (int bits = 0; bits < 1 << nodes.size(); bits++) {
                Set<Node> subset = new HashSet<>();
                for (int i = 0; i < nodes.size(); i++) {
                    if ((bits >> i & 1) == 1) {
                        subset.add(nodes.get(i));
                    }
                }
                if (subset.size() == number) {
                    subsets.add(subset);
                }
            }
        }
        return subsets;
    }

    /** The whole file then, if just these tables become wide; null if that does not come out even. */
    private int[] outcome(Node movie, Set<Node> wide, Set<Node> narrow) {
        int size = rendered(movie, wide, p -> 0).length;
        List<Node> order = new ArrayList<>(top);
        order.remove(movie);
        order.add(order.indexOf(of(top, 68).get(0)), movie);
        int[] start = new int[bytes.length + 1];
        int at = 0;
        for (Node node : order) {
            start[node.place] = at;
            at += node == movie ? size : node.size;
        }
        for (Node track : trackNodes()) {
            Node table = of(track.inside, 111, 79).get(0);
            boolean tooBig = false;
            for (int[] chunk : chunksOf(track)) {
                Node data = dataOf(chunk[0], chunk[1]);
                tooBig |= chunk[0] - data.place + start[data.place] > 255;
            }
            if (narrow.contains(table) && tooBig != wide.contains(table)) {
                return null;
            }
        }
        int[] file = new int[0];
        for (Node node : order) {
            file = Build.join(file, node == movie ? rendered(movie, wide, p -> newPlace(p, start))
                : Arrays.copyOfRange(bytes, node.place, node.end()));
        }
        return file;
    }

    private int newPlace(int p, int[] start) {
        Node data = dataOf(p, 0);
        return p - data.place + start[data.place];
    }

    private int[] rendered(Node node, Set<Node> wide, IntUnaryOperator newPlace) {
        int[] body = new int[0];
        if (node.isRead) {
            for (Node child : node.inside) {
                body = Build.join(body, rendered(child, wide, newPlace));
            }
        } else if (node.is(111) || node.is(79)) {
            body = Build.bytes(bytes[node.body()]);
            for (int place : placesOf(node.holder)) {
                int now = newPlace.applyAsInt(place);
                body = Build.join(body, node.is(79) || wide.contains(node) ? Build.bytes(now / 256, now % 256) : Build.bytes(now));
            }
        } else {
            body = Arrays.copyOfRange(bytes, node.body(), node.end());
        }
        int type = wide.contains(node) ? 79 : node.type;
        return node.header == 4 || body.length + 2 > 255 ? Build.longBox(type, body) : Build.box(type, body);
    }
}
