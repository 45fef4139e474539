import java.util.ArrayList;
import java.util.Arrays;
import java.util.Collections;
import java.util.List;
import java.util.Map;
import java.util.Random;
import java.util.TreeMap;

/** Made-up files, always the same ones, and the answers to every question compared with Reference. */
public final class ReferenceTest {
    private static final int FILES = 3000;
    private static final int LAST_TIME = 400;
    private static final Due due = new Due();
    private static final Map<String, Integer> met = new TreeMap<>();
    private static final Random random = new Random(20261115);

    public static void main(String[] args) {
        for (int i = 0; i < FILES; i++) {
            int[] bytes = spoilt(madeUp());
            if (bytes.length <= 1000) {
                compare("file " + i, bytes);
            }
        }
        for (int i = 0; i < FILES; i++) {
            compare("noise " + i, noise());
        }
        System.out.println("met: " + met);
        for (String what : new String[] {"fault 0", "fault 1", "fault 2", "fault 3", "fault 4", "fault 5", "fault 6", "full", "bad",
            "stayed", "moved", "wide 0", "wide 1", "wide 2", "headers grown 0", "headers grown 1", "headers grown 2",
            "headers grown 3"}) {
            due.is("met " + what + " often", met.getOrDefault(what, 0) >= 5, true);
        }
        due.end();
    }

    private static void count(String what) {
        met.merge(what, 1, Integer::sum);
    }

    private static void compare(String file, int[] bytes) {
        Reference want = new Reference(bytes);
        count("fault " + want.check());
        MovieBoxes x = Build.file(bytes);
        askAll(file, x, want);
        int answer = want.fastStart();
        due.is(file + ": fastStart()", x.fastStart(), answer);
        countStart(want, answer);
        due.fileIs(file + " moved", x, want.bytes());
        askAll(file + " moved", x, want);
        if (want.moved) {
            due.is(file + ": no fault when moved", x.check(), 0);
        }
        changeAndAsk(file, x, want.bytes());
    }

    /** The same object goes on: what it kept of the bytes before must not show. */
    private static void changeAndAsk(String file, MovieBoxes x, int[] bytes) {
        if (bytes.length == 0) {
            return;
        }
        int[] now = bytes.clone();
        int p = random.nextInt(now.length);
        int b = upTo(255);
        due.is(file + ": poke(" + p + ", " + b + ")", x.poke(p, b), now[p]);
        now[p] = b;
        askAll(file + " poked", x, new Reference(now));
        due.is(file + ": cut(" + p + ")", x.cut(p), true);
        askAll(file + " cut", x, new Reference(Arrays.copyOf(now, p)));
        for (int i = p; i < now.length; i++) {
            now[i] = bytes[i];
            due.is(file + ": append(" + now[i] + ", 1)", x.append(now[i], 1), i + 1);
        }
        askAll(file + " whole again", x, new Reference(now));
    }

    private static void countStart(Reference want, int answer) {
        if (want.moved) {
            count("moved");
            count("wide " + want.becameWide);
            count("headers grown " + want.grownHeaders);
        } else {
            count(answer == MovieBoxes.FULL ? "full" : answer == MovieBoxes.BAD ? "bad" : "stayed");
        }
    }

    private static void askAll(String file, MovieBoxes x, Reference want) {
        due.is(file + ": check()", x.check(), want.check());
        due.is(file + ": boxes()", x.boxes(), want.boxes());
        for (int k = -1; k <= 20; k++) {
            for (int what = -1; what <= 6; what++) {
                due.is(file + ": box(" + k + ", " + what + ")", x.box(k, what), want.box(k, what));
            }
        }
        due.is(file + ": tracks()", x.tracks(), want.tracks());
        for (int track = -1; track <= 2; track++) {
            int n = want.samples(track);
            due.is(file + ": samples(" + track + ")", x.samples(track), n);
            if (n == MovieBoxes.NONE) {
                due.is(file + ": sample of none", x.sample(track, 0, 0), MovieBoxes.NONE);
                due.is(file + ": shown of none", x.shown(track, 0), MovieBoxes.NONE);
            } else {
                askTrack(file, x, want, track);
            }
        }
    }

    private static void askTrack(String file, MovieBoxes x, Reference want, int track) {
        int[][] table = want.sampleTable(track);
        for (int k = 0; k < table.length; k++) {
            for (int what = 0; what < 6; what++) {
                due.is(file + ": sample(" + track + ", " + k + ", " + what + ")", x.sample(track, k, what), table[k][what]);
            }
        }
        due.is(file + ": sample behind the last", x.sample(track, table.length, 0), MovieBoxes.NONE);
        int[] shown = want.shownTable(track, LAST_TIME);
        for (int t = 0; t < LAST_TIME; t++) {
            due.is(file + ": shown(" + track + ", " + t + ")", x.shown(track, t), shown[t]);
        }
    }

    /** A box to be: its header's length, and whether it reaches to the end if it comes last. */
    private static int[] anyHeader(int type, int[]... payload) {
        int size = Build.join(payload).length + 2;
        return size > 255 || random.nextInt(6) == 0 ? Build.longBox(type, payload) : Build.box(type, payload);
    }

    private static int upTo(int most) {
        return random.nextInt(most + 1);
    }

    private static boolean oneIn(int n) {
        return random.nextInt(n) == 0;
    }

    private static int[] anyBytes(int n) {
        int[] row = new int[n];
        for (int i = 0; i < n; i++) {
            row[i] = upTo(255);
        }
        return row;
    }

    private static int[] dataBox() {
        int n = oneIn(3) ? upTo(8) : oneIn(2) ? 180 + upTo(73) : upTo(400);
        return anyHeader(Build.DATA, anyBytes(n));
    }

    /** Rows of counts that are n together, with values up to a bound. */
    private static int[] counted(int n, int bound) {
        List<Integer> rows = new ArrayList<>();
        int left = n;
        while (left > 0) {
            int now = oneIn(3) ? left : Math.min(left, upTo(4));
            rows.add(now);
            rows.add(upTo(bound));
            left -= now;
        }
        return withNumber(rows, 2);
    }

    private static int[] withNumber(List<Integer> rows, int width) {
        int[] row = new int[rows.size() + 1];
        row[0] = rows.size() / width;
        for (int i = 0; i < rows.size(); i++) {
            row[i + 1] = rows.get(i);
        }
        return row;
    }

    /** A track to be: everything but the places of its chunks. */
    private static final class Plan {
        final List<int[]> boxes = new ArrayList<>();
        final List<Integer> chunkBytes = new ArrayList<>();
        int placesAt;
        boolean wide;
        boolean longHeader;
        boolean longTrack;
        int[] places;

        int[] bytes() {
            int[] rows = Build.bytes(places.length);
            for (int place : places) {
                rows = Build.join(rows, wide ? Build.bytes(place / 256, place % 256) : Build.bytes(place % 256));
            }
            int type = wide ? Build.WIDE : Build.PLACES;
            int[] table = longHeader || rows.length > 253 ? Build.longBox(type, rows) : Build.box(type, rows);
            int[] body = new int[0];
            for (int i = 0; i <= boxes.size(); i++) {
                body = Build.join(body, i == placesAt ? table : new int[0], i < boxes.size() ? boxes.get(i) : new int[0]);
            }
            return longTrack || body.length > 253 ? Build.longBox(Build.TRACK, body) : Build.box(Build.TRACK, body);
        }
    }

    private static Plan plan() {
        Plan plan = new Plan();
        int chunks = oneIn(3) ? 60 + upTo(75) : upTo(6);
        int most = chunks > 10 ? 1 : 3;
        List<Integer> rows = new ArrayList<>();
        List<Integer> many = new ArrayList<>();
        for (int c = 1; c <= chunks; c++) {
            if (c == 1 || oneIn(chunks > 10 ? 30 : 3)) {
                Collections.addAll(rows, c, 1 + random.nextInt(most), upTo(255));
            }
            many.add(rows.get(rows.size() - 2));
        }
        int n = many.stream().mapToInt(Integer::intValue).sum();
        boolean fixed = chunks > 10 || oneIn(2);
        int[] sizes = fixed ? Build.bytes(1 + upTo(3), n) : Build.bytes(0, n);
        int k = 0;
        for (int samples : many) {
            int total = 0;
            for (int i = 0; i < samples; i++, k++) {
                int size = fixed ? sizes[0] : oneIn(3) ? 0 : upTo(6);
                sizes = fixed ? sizes : Build.join(sizes, Build.bytes(size));
                total += size;
            }
            plan.chunkBytes.add(total);
        }
        plan.boxes.add(anyHeader(Build.SIZES, sizes));
        plan.boxes.add(anyHeader(Build.CHUNKS, withNumber(rows, 3)));
        plan.boxes.add(anyHeader(Build.DURATIONS, counted(n, oneIn(2) ? 12 : 255)));
        addOptional(plan, n);
        Collections.shuffle(plan.boxes, random);
        plan.placesAt = upTo(plan.boxes.size());
        plan.wide = oneIn(4);
        plan.longHeader = oneIn(6);
        plan.longTrack = oneIn(6);
        plan.places = new int[chunks];
        return plan;
    }

    private static void addOptional(Plan plan, int n) {
        if (oneIn(3)) {
            plan.boxes.add(anyHeader(Build.SHIFTS, counted(n, 255)));
        }
        if (oneIn(3)) {
            List<Integer> syncs = new ArrayList<>();
            for (int number = 1; number <= n; number++) {
                if (oneIn(n > 10 ? 9 : 2)) {
                    syncs.add(number);
                }
            }
            plan.boxes.add(anyHeader(Build.SYNCS, withNumber(syncs, 1)));
        }
        if (oneIn(3)) {
            List<Integer> edits = new ArrayList<>();
            for (int i = upTo(4); i > 0; i--) {
                Collections.addAll(edits, upTo(oneIn(3) ? 255 : 20), oneIn(3) ? 255 : upTo(60));
            }
            plan.boxes.add(anyHeader(Build.EDITS, withNumber(edits, 2)));
        }
        if (oneIn(4)) {
            plan.boxes.add(anyHeader(oneIn(2) ? Build.TRACK : Build.FREE, anyBytes(upTo(60))));
        }
    }

    private static int[] assembled(List<int[]> others, List<Plan> plans, int[] extra, int at, boolean longMovie, boolean open) {
        int[] body = new int[0];
        for (Plan plan : plans) {
            body = Build.join(body, plan.bytes());
        }
        body = Build.join(body, extra);
        boolean isLong = longMovie || body.length > 253;
        int[] movie = open ? Build.openBox(Build.MOVIE, body) : isLong ? Build.longBox(Build.MOVIE, body) : Build.box(Build.MOVIE, body);
        int[] file = new int[0];
        for (int i = 0; i <= others.size(); i++) {
            file = Build.join(file, i == at ? movie : new int[0], i < others.size() ? others.get(i) : new int[0]);
        }
        return file;
    }

    private static int[] madeUp() {
        List<int[]> others = new ArrayList<>();
        for (int i = upTo(2); i >= 0; i--) {
            others.add(dataBox());
        }
        if (oneIn(2)) {
            others.add(upTo(others.size()), anyHeader(oneIn(2) ? Build.FREE : Build.TRACK, anyBytes(oneIn(3) ? upTo(500) : upTo(9))));
        }
        List<Plan> plans = new ArrayList<>();
        plans.add(plan());
        if (oneIn(2)) {
            plans.add(plan());
        }
        int[] extra = oneIn(3) ? anyHeader(oneIn(2) ? Build.MOVIE : Build.PLACES, anyBytes(upTo(200))) : new int[0];
        int at = oneIn(2) ? others.size() : upTo(others.size());
        boolean open = at == others.size() && oneIn(3);
        boolean longMovie = oneIn(6);
        if (!open && at < others.size() && oneIn(8)) {
            others.set(others.size() - 1, Build.openBox(oneIn(2) ? Build.DATA : Build.FREE, anyBytes(upTo(30))));
        }
        int[] first = assembled(others, plans, extra, at, longMovie, open);
        if (first.length > 1000) {
            return first;
        }
        choosePlaces(first, plans);
        return assembled(others, plans, extra, at, longMovie, open);
    }

    private static void choosePlaces(int[] file, List<Plan> plans) {
        Reference read = new Reference(file);
        List<int[]> payloads = new ArrayList<>();
        for (int k = 0; k < read.boxes(); k++) {
            if (read.box(k, 4) == 0 && read.box(k, 2) == Build.DATA) {
                payloads.add(new int[] {read.box(k, 0) + read.box(k, 3), read.box(k, 0) + read.box(k, 1)});
            }
        }
        for (Plan plan : plans) {
            for (int c = 0; c < plan.places.length; c++) {
                plan.places[c] = placeFor(payloads, plan.chunkBytes.get(c), plan.wide ? 1000 : 255);
            }
        }
    }

    private static int placeFor(List<int[]> payloads, int size, int most) {
        for (int tries = 0; tries < 20 && !payloads.isEmpty(); tries++) {
            int[] payload = payloads.get(random.nextInt(payloads.size()));
            int last = Math.min(payload[1] - size, most);
            if (payload[0] <= last) {
                return oneIn(6) ? last : oneIn(6) ? payload[0] : payload[0] + upTo(last - payload[0]);
            }
        }
        return 0;
    }

    private static int[] spoilt(int[] bytes) {
        if (oneIn(2) || bytes.length == 0) {
            return bytes;
        }
        int[] now = bytes.clone();
        for (int i = upTo(2); i >= 0; i--) {
            int p = random.nextInt(now.length);
            now[p] = oneIn(2) ? upTo(255) : Math.max(0, Math.min(255, now[p] + upTo(2) - 1));
        }
        return oneIn(6) ? Build.join(now, anyBytes(1 + upTo(3))) : now;
    }

    /** A row of bytes that are often the start of a box. */
    private static int[] noise() {
        int[] types = {77, 68, 84, 115, 99, 107, 122, 111, 79, 121, 101, 32};
        int[] file = new int[0];
        for (int i = upTo(24); i > 0; i--) {
            int type = types[random.nextInt(types.length)];
            file = Build.join(file, oneIn(8) ? Build.bytes(1, type, 0, upTo(12)) : Build.bytes(upTo(9), type), Build.same(upTo(2), 1));
        }
        return file;
    }
}
