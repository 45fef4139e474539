/** Promises 1 to 6: a new object, append, poke, cut, length, peek. */
public final class BytesTest {
    private static final Due due = new Due();

    public static void main(String[] args) {
        newObject();
        appendOrder();
        appendRefused();
        appendFull();
        poke();
        cut();
        peek();
        due.end();
    }

    private static void newObject() {
        MovieBoxes x = new MovieBoxes();
        due.is("new length()", x.length(), 0);
        due.is("new peek(0)", x.peek(0), MovieBoxes.NONE);
        due.is("new check()", x.check(), 3);
        due.is("new boxes()", x.boxes(), 0);
        due.is("new tracks()", x.tracks(), MovieBoxes.NONE);
        due.is("new fastStart()", x.fastStart(), MovieBoxes.BAD);
        MovieBoxes y = new MovieBoxes();
        x.append(5, 1);
        due.is("objects share nothing", y.length(), 0);
    }

    private static void appendOrder() {
        MovieBoxes x = new MovieBoxes();
        due.is("append 8", x.append(0x0102030405060708L, 8), 8);
        due.is("append of the lowest 3", x.append(0x7fffffffffa1b2c3L, 3), 11);
        due.is("append of -1", x.append(-1L, 2), 13);
        due.is("append of the sign", x.append(Long.MIN_VALUE, 8), 21);
        for (int p = 0; p < 8; p++) {
            due.is("peek of 8", x.peek(p), p + 1);
        }
        due.is("peek(8)", x.peek(8), 0xa1);
        due.is("peek(9)", x.peek(9), 0xb2);
        due.is("peek(10)", x.peek(10), 0xc3);
        due.is("peek(11)", x.peek(11), 255);
        due.is("peek(12)", x.peek(12), 255);
        due.is("peek(13)", x.peek(13), 128);
        due.is("peek(20)", x.peek(20), 0);
        due.is("length()", x.length(), 21);
    }

    private static void appendRefused() {
        MovieBoxes x = new MovieBoxes();
        int[] bad = {0, 9, -1, 100, Integer.MIN_VALUE, Integer.MAX_VALUE};
        for (int n : bad) {
            due.is("append(1, " + n + ")", x.append(1, n), MovieBoxes.BAD);
        }
        due.is("length after refusals", x.length(), 0);
    }

    private static void appendFull() {
        MovieBoxes x = new MovieBoxes();
        for (int i = 0; i < 124; i++) {
            x.append(i, 8);
        }
        due.is("append up to 999", x.append(1, 7), 999);
        due.is("append past 1000", x.append(1, 2), MovieBoxes.FULL);
        due.is("a bad n comes before full", x.append(1, 9), MovieBoxes.BAD);
        due.is("length after full", x.length(), 999);
        due.is("append up to 1000", x.append(77, 1), 1000);
        due.is("append at 1000", x.append(1, 1), MovieBoxes.FULL);
        due.is("append(1, 0) at 1000", x.append(1, 0), MovieBoxes.BAD);
        due.is("peek(999)", x.peek(999), 77);
        due.is("peek(1000)", x.peek(1000), MovieBoxes.NONE);
        due.is("poke(999, 3)", x.poke(999, 3), 77);
        due.is("poke(1000, 3)", x.poke(1000, 3), MovieBoxes.NONE);
        due.is("cut(1000)", x.cut(1000), true);
        due.is("length()", x.length(), 1000);
    }

    private static void poke() {
        MovieBoxes x = Build.file(Build.bytes(10, 20, 30));
        due.is("poke(1, 255)", x.poke(1, 255), 20);
        due.is("poke(1, 0)", x.poke(1, 0), 255);
        due.is("poke(1, 256)", x.poke(1, 256), MovieBoxes.NONE);
        due.is("poke(1, -1)", x.poke(1, -1), MovieBoxes.NONE);
        due.is("poke(3, 1)", x.poke(3, 1), MovieBoxes.NONE);
        due.is("poke(-1, 1)", x.poke(-1, 1), MovieBoxes.NONE);
        due.is("poke(min, 1)", x.poke(Integer.MIN_VALUE, 1), MovieBoxes.NONE);
        due.is("poke(max, 1)", x.poke(Integer.MAX_VALUE, 1), MovieBoxes.NONE);
        due.fileIs("poked", x, Build.bytes(10, 0, 30));
        due.is("a poked byte is read: fault", Build.file(Build.bytes(2, 32)).check(), 3);
        MovieBoxes y = Build.file(Build.bytes(2, 32));
        y.check();
        y.poke(0, 3);
        due.is("a poke is seen by check()", y.check(), 1);
    }

    private static void cut() {
        MovieBoxes x = Build.file(Build.bytes(10, 20, 30, 40));
        due.is("cut(5)", x.cut(5), false);
        due.is("cut(-1)", x.cut(-1), false);
        due.is("cut(min)", x.cut(Integer.MIN_VALUE), false);
        due.is("cut(max)", x.cut(Integer.MAX_VALUE), false);
        due.is("cut(4)", x.cut(4), true);
        due.fileIs("cut at its length", x, Build.bytes(10, 20, 30, 40));
        due.is("cut(2)", x.cut(2), true);
        due.fileIs("cut", x, Build.bytes(10, 20));
        due.is("peek(2) behind the cut", x.peek(2), MovieBoxes.NONE);
        due.is("poke(2, 0) behind the cut", x.poke(2, 0), MovieBoxes.NONE);
        due.is("append behind the cut", x.append(7, 1), 3);
        due.fileIs("cut and appended", x, Build.bytes(10, 20, 7));
        due.is("cut(0)", x.cut(0), true);
        due.is("cut(0) again", x.cut(0), true);
        due.is("length()", x.length(), 0);
    }

    private static void peek() {
        MovieBoxes x = Build.file(Build.bytes(0, 255));
        due.is("peek(0)", x.peek(0), 0);
        due.is("peek(1)", x.peek(1), 255);
        due.is("peek(2)", x.peek(2), MovieBoxes.NONE);
        due.is("peek(-1)", x.peek(-1), MovieBoxes.NONE);
        due.is("peek(max)", x.peek(Integer.MAX_VALUE), MovieBoxes.NONE);
        due.is("peek(min)", x.peek(Integer.MIN_VALUE), MovieBoxes.NONE);
    }
}
