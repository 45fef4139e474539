import java.util.Arrays;

/** Promises 1 to 6: each sentence with an edge has a test. */
public final class SentencesBytesTest {
    private static final int NONE = MovieBoxes.NONE;
    private static final Due due = new Due();

    public static void main(String[] args) {
        newObject();
        lowestBytes();
        addedAtTheEnd();
        appendBad();
        appendFull();
        badBeforeFull();
        pokeChanges();
        pokeNoPlace();
        pokeNoByte();
        cutKeeps();
        cutRefused();
        length();
        peek();
        due.end();
    }

    private static void newObject() {
        due.sentence("MovieBoxes(): An empty file.");
        MovieBoxes used = Build.file(Build.same(1000, 7));
        MovieBoxes x = new MovieBoxes();
        due.is("length()", x.length(), 0);
        due.is("peek(0)", x.peek(0), NONE);
        due.is("cut(0)", x.cut(0), true);
        due.is("cut(1)", x.cut(1), false);
        due.is("append(3, 1)", x.append(3, 1), 1);
        due.fileIs("the new one", x, Build.bytes(3));
        due.is("the one from before", used.length(), 1000);
    }

    private static void lowestBytes() {
        due.sentence("The lowest n bytes of bytes, the highest of them first");
        for (int n = 1; n <= 8; n++) {
            MovieBoxes x = new MovieBoxes();
            due.is("append of " + n, x.append(0xF1E2D3C4B5A69788L, n), n);
            int[] all = {0xF1, 0xE2, 0xD3, 0xC4, 0xB5, 0xA6, 0x97, 0x88};
            due.fileIs("append of " + n, x, Arrays.copyOfRange(all, 8 - n, 8));
        }
        long[] edges = {0L, -1L, 1L, 255L, 256L, Long.MAX_VALUE, Long.MIN_VALUE, 0xFFFFFFFFL, 0x80000000L};
        for (long bytes : edges) {
            MovieBoxes x = new MovieBoxes();
            x.append(bytes, 8);
            for (int p = 0; p < 8; p++) {
                due.is("peek(" + p + ") of " + bytes, x.peek(p), bytes >>> 8 * (7 - p) & 255);
            }
        }
    }

    private static void addedAtTheEnd() {
        due.sentence("are added at the end of the file. Answers the file's length then");
        MovieBoxes x = new MovieBoxes();
        due.is("append(1, 1)", x.append(1, 1), 1);
        due.is("append(0x0203, 2)", x.append(0x0203, 2), 3);
        due.is("append(4, 3)", x.append(4, 3), 6);
        due.fileIs("all", x, Build.bytes(1, 2, 3, 0, 0, 4));
        x.cut(2);
        due.is("append(9, 1) behind a cut", x.append(9, 1), 3);
        due.fileIs("behind a cut", x, Build.bytes(1, 2, 9));
    }

    private static void appendBad() {
        due.sentence("BAD if n is not 1 .. 8");
        MovieBoxes x = new MovieBoxes();
        for (int n : new int[] {0, -1, -8, 9, 10, 16, 255, 256, 257, Integer.MIN_VALUE, Integer.MAX_VALUE}) {
            due.is("append(1, " + n + ")", x.append(1, n), MovieBoxes.BAD);
        }
        due.is("append(1, 1)", x.append(1, 1), 1);
        due.is("append(1, 8)", x.append(1, 8), 9);
    }

    private static void appendFull() {
        due.sentence("otherwise FULL if the file would be longer than 1000");
        for (int n = 1; n <= 8; n++) {
            MovieBoxes just = Build.file(Build.same(1000 - n, 0));
            due.is("append of " + n + " up to 1000", just.append(-1L, n), 1000);
            due.is("append of " + n + " at 1000", just.append(0, n), MovieBoxes.FULL);
            due.is("the last byte", just.peek(999), 255);
            MovieBoxes past = Build.file(Build.same(1001 - n, 0));
            due.is("append of " + n + " up to 1001", past.append(-1L, n), MovieBoxes.FULL);
            due.is("length() then", past.length(), 1001 - n);
        }
    }

    private static void badBeforeFull() {
        due.sentence("BAD if n is not 1 .. 8; otherwise FULL");
        MovieBoxes x = Build.file(Build.same(1000, 0));
        due.is("append(1, 9) at 1000", x.append(1, 9), MovieBoxes.BAD);
        due.is("append(1, 0) at 1000", x.append(1, 0), MovieBoxes.BAD);
        due.is("append(1, max) at 1000", x.append(1, Integer.MAX_VALUE), MovieBoxes.BAD);
    }

    private static void pokeChanges() {
        due.sentence("The byte at place p becomes b. Answers the byte that was there");
        MovieBoxes x = Build.file(Build.bytes(10, 20, 30));
        due.is("poke(0, 0)", x.poke(0, 0), 10);
        due.is("poke(0, 255)", x.poke(0, 255), 0);
        due.is("poke(0, 255)", x.poke(0, 255), 255);
        due.is("poke(2, 1)", x.poke(2, 1), 30);
        due.fileIs("poked", x, Build.bytes(255, 20, 1));
        MovieBoxes full = Build.file(Build.same(1000, 5));
        due.is("poke(999, 6)", full.poke(999, 6), 5);
        due.is("peek(999)", full.peek(999), 6);
    }

    private static void pokeNoPlace() {
        due.sentence("NONE if p is no place of the file");
        MovieBoxes x = Build.file(Build.bytes(10, 20, 30));
        for (int p : new int[] {-1, 3, 4, 999, 1000, Integer.MIN_VALUE, Integer.MAX_VALUE}) {
            due.is("poke(" + p + ", 1)", x.poke(p, 1), NONE);
        }
        due.is("poke(1000, 1) of 1000", Build.file(Build.same(1000, 5)).poke(1000, 1), NONE);
        due.is("poke(0, 1) of none", new MovieBoxes().poke(0, 1), NONE);
        x.cut(2);
        due.is("poke(2, 1) behind a cut", x.poke(2, 1), NONE);
    }

    private static void pokeNoByte() {
        due.sentence("or b is not 0 .. 255");
        MovieBoxes x = Build.file(Build.bytes(10));
        for (int b : new int[] {-1, -128, 256, 257, 65536, Integer.MIN_VALUE, Integer.MAX_VALUE}) {
            due.is("poke(0, " + b + ")", x.poke(0, b), NONE);
        }
        due.is("poke(0, 0)", x.poke(0, 0), 10);
        due.is("poke(0, 255)", x.poke(0, 255), 0);
    }

    private static void cutKeeps() {
        due.sentence("The file keeps its first n bytes alone (all, if n is length()). Answers true");
        MovieBoxes x = Build.file(Build.bytes(1, 2, 3, 4));
        due.is("cut(4)", x.cut(4), true);
        due.fileIs("cut(4)", x, Build.bytes(1, 2, 3, 4));
        due.is("cut(3)", x.cut(3), true);
        due.fileIs("cut(3)", x, Build.bytes(1, 2, 3));
        due.is("peek(3)", x.peek(3), NONE);
        due.is("cut(1)", x.cut(1), true);
        due.fileIs("cut(1)", x, Build.bytes(1));
        due.is("cut(0)", x.cut(0), true);
        due.is("length()", x.length(), 0);
        due.is("cut(0) of none", x.cut(0), true);
        due.is("cut(1000) of 1000", Build.file(Build.same(1000, 1)).cut(1000), true);
    }

    private static void cutRefused() {
        due.sentence("false if n is not 0 .. length()");
        MovieBoxes x = Build.file(Build.bytes(1, 2, 3, 4));
        for (int n : new int[] {-1, 5, 6, 1000, Integer.MIN_VALUE, Integer.MAX_VALUE}) {
            due.is("cut(" + n + ")", x.cut(n), false);
        }
        due.fileIs("then", x, Build.bytes(1, 2, 3, 4));
        due.is("cut(1) of none", new MovieBoxes().cut(1), false);
        x.cut(2);
        due.is("cut(3) when cut to 2", x.cut(3), false);
        due.is("cut(1001) of 1000", Build.file(Build.same(1000, 1)).cut(1001), false);
    }

    private static void length() {
        due.sentence("The number of bytes of the file.");
        MovieBoxes x = new MovieBoxes();
        due.is("length() of none", x.length(), 0);
        for (int n = 1; n <= 125; n++) {
            x.append(0, 8);
            due.is("length()", x.length(), 8 * n);
        }
        x.append(0, 1);
        due.is("length() when full", x.length(), 1000);
        x.cut(3);
        due.is("length() after a cut", x.length(), 3);
        MovieBoxes grown = Build.file(Build.box(Build.DATA, Build.counting(240)), Tables.plain().with(Build.PLACES, 1, 233).movie());
        grown.fastStart();
        due.is("length() after fastStart()", grown.length(), 266);
    }

    private static void peek() {
        due.sentence("The byte at place p; NONE if p is no place of the file.");
        MovieBoxes x = Build.file(Build.bytes(0, 127, 128, 255));
        due.is("peek(0)", x.peek(0), 0);
        due.is("peek(1)", x.peek(1), 127);
        due.is("peek(2)", x.peek(2), 128);
        due.is("peek(3)", x.peek(3), 255);
        for (int p : new int[] {-1, 4, 5, 999, 1000, Integer.MIN_VALUE, Integer.MAX_VALUE}) {
            due.is("peek(" + p + ")", x.peek(p), NONE);
        }
        due.is("peek(0) of none", new MovieBoxes().peek(0), NONE);
        MovieBoxes full = Build.file(Build.same(1000, 5));
        due.is("peek(999) of 1000", full.peek(999), 5);
        due.is("peek(1000) of 1000", full.peek(1000), NONE);
        full.cut(999);
        due.is("peek(999) behind a cut", full.peek(999), NONE);
    }
}
