/** What the document says of an object's calls and of THE FILE: each sentence with an edge has a test. */
public final class SentencesFileTest {
    private static final int NONE = MovieBoxes.NONE;
    private static final Due due = new Due();

    public static void main(String[] args) {
        upTo512Calls();
        upTo1000Bytes();
        bytesFrom0To255();
        higherByteFirst();
        sizeByteFrom2On();
        sizeByte1();
        sizeByte0();
        sizeByte0AtTheTopOnly();
        payload();
        rowOfBoxes();
        rowOfBoxesInside();
        due.end();
    }

    private static void boxIs(MovieBoxes x, int k, int place, int length, int header) {
        due.is("box(" + k + ", 0)", x.box(k, 0), place);
        due.is("box(" + k + ", 1)", x.box(k, 1), length);
        due.is("box(" + k + ", 3)", x.box(k, 3), header);
    }

    private static void fault(String what, int want, int[]... parts) {
        due.is(what + ": check()", Build.file(parts).check(), want);
    }

    private static void upTo512Calls() {
        due.sentence("An object is used for at most 512 calls after it has been made");
        MovieBoxes x = new MovieBoxes();
        int[] bytes = Build.join(Build.box(Build.DATA, Build.counting(8)), Tables.plain().movie());
        int calls = 0;
        for (int b : bytes) {
            calls++;
            due.is("append as call " + calls, x.append(b, 1), calls);
        }
        for (int round = 0; round < 238; round++) {
            boolean isGood = round % 2 == 1;
            x.poke(bytes.length - 1, isGood ? 2 : 1);
            calls += 2;
            due.is("check() as call " + calls, x.check(), isGood ? 0 : 6);
        }
        due.is("calls so far", calls, 509);
        due.is("sample(0, 2, 0) as call 510", x.sample(0, 2, 0), 4);
        due.is("fastStart() as call 511", x.fastStart(), 23);
        due.is("sample(0, 2, 0) as call 512", x.sample(0, 2, 0), 27);
    }

    private static void upTo1000Bytes() {
        due.sentence("THE FILE is 0 .. 1000 bytes (0 .. 255 each) at places 0, 1, ..");
        MovieBoxes empty = new MovieBoxes();
        due.is("length() of none", empty.length(), 0);
        due.is("peek(0) of none", empty.peek(0), NONE);
        MovieBoxes one = Build.file(Build.bytes(9));
        due.is("length() of one", one.length(), 1);
        due.is("peek(0) of one", one.peek(0), 9);
        due.is("peek(1) of one", one.peek(1), NONE);
        int[] most = Build.longBox(Build.FREE, Build.counting(996));
        MovieBoxes full = Build.file(most);
        due.fileIs("1000 bytes", full, most);
        due.is("peek(1000) of 1000", full.peek(1000), NONE);
        boxIs(full, 0, 0, 1000, 4);
    }

    private static void bytesFrom0To255() {
        due.sentence("bytes (0 .. 255 each)");
        int[] all = new int[256];
        for (int b = 0; b < 256; b++) {
            all[b] = b;
        }
        MovieBoxes x = Build.file(all);
        due.fileIs("every byte appended", x, all);
        for (int b = 0; b < 256; b++) {
            due.is("poke(" + b + ")", x.poke(b, 255 - b), b);
            due.is("peek(" + b + ")", x.peek(b), 255 - b);
        }
    }

    private static void higherByteFirst() {
        due.sentence("a number of two bytes has its higher byte first");
        boxIs(Build.file(Build.bytes(1, 32, 0, 255), Build.same(251, 7)), 0, 0, 255, 4);
        boxIs(Build.file(Build.bytes(1, 32, 1, 0), Build.same(252, 7)), 0, 0, 256, 4);
        boxIs(Build.file(Build.bytes(1, 32, 1, 2), Build.same(254, 7)), 0, 0, 258, 4);
        boxIs(Build.file(Build.bytes(1, 32, 2, 1), Build.same(509, 7)), 0, 0, 513, 4);
        MovieBoxes x = Build.file(Build.longBox(Build.DATA, Build.same(600, 1)), Tables.plain().with(Build.WIDE, 1, 1, 2).movie());
        due.is("the place 1, 2", x.sample(0, 0, 0), 258);
        MovieBoxes y = Build.file(Build.longBox(Build.DATA, Build.same(600, 1)), Tables.plain().with(Build.WIDE, 1, 2, 1).movie());
        due.is("the place 2, 1", y.sample(0, 0, 0), 513);
    }

    private static void sizeByteFrom2On() {
        due.sentence("A BOX begins with a size byte n and a type byte. n from 2 on: its HEADER is these two bytes, and the "
            + "box is n bytes long, the header included");
        for (int n = 2; n < 256; n++) {
            MovieBoxes x = Build.file(Build.bytes(n, 32), Build.same(n - 2, 9), Build.bytes(2, 33));
            due.is("boxes() with n = " + n, x.boxes(), 2);
            boxIs(x, 0, 0, n, 2);
            boxIs(x, 1, n, 2, 2);
        }
    }

    private static void sizeByte1() {
        due.sentence("n = 1: its header is four bytes, of which the third and fourth are the length of the box, header included");
        int[] lengths = {4, 5, 6, 254, 255, 256, 257, 511, 512, 998};
        for (int length : lengths) {
            MovieBoxes x = Build.file(Build.bytes(1, 32, length / 256, length % 256), Build.same(length - 4, 9), Build.bytes(2, 33));
            due.is("boxes() with the length " + length, x.boxes(), 2);
            boxIs(x, 0, 0, length, 4);
            boxIs(x, 1, length, 2, 2);
        }
    }

    private static void sizeByte0() {
        due.sentence("n = 0: its header is two bytes, and the box reaches to the end of the file");
        MovieBoxes x = Build.file(Build.bytes(2, 33, 0, 32));
        due.is("boxes() with nothing behind the header", x.boxes(), 2);
        boxIs(x, 1, 2, 2, 2);
        x.append(2 * 256 + 33, 2);
        due.is("boxes() with what looks like a box", x.boxes(), 2);
        boxIs(x, 1, 2, 4, 2);
        boxIs(Build.file(Build.bytes(0, 32), Build.same(998, 0)), 0, 0, 1000, 2);
        boxIs(Build.file(Build.bytes(0, 32, 1)), 0, 0, 3, 2);
        fault("an open movie", 0, Build.box(Build.DATA, Build.counting(3)), Build.openBox(Build.MOVIE, Tables.plain().track()));
        int[] late = Tables.plain().with(Build.PLACES, 1, 25).movie();
        fault("open data", 0, late, Build.openBox(Build.DATA, Build.counting(3)));
        fault("open data that is too short", 6, late, Build.openBox(Build.DATA, Build.counting(2)));
    }

    private static void sizeByte0AtTheTopOnly() {
        due.sentence("this is good at the top level only");
        fault("at the top", 3, Build.bytes(0, 32));
        fault("at the top, a movie", 3, Build.bytes(0, 77));
        fault("in a movie", 1, Build.box(Build.MOVIE, Build.bytes(0, 32)));
        fault("at the end of an open movie", 1, Build.openBox(Build.MOVIE, Build.bytes(0, 32)));
        fault("in a track", 1, Build.box(Build.MOVIE, Build.box(Build.TRACK, Build.bytes(0, 32))));
        fault("at the end of all, in a track", 1, Build.openBox(Build.MOVIE, Build.box(Build.TRACK, Build.bytes(0, 32, 9, 9))));
        fault("a track", 1, Build.openBox(Build.MOVIE, Build.openBox(Build.TRACK, Build.empties(1))));
    }

    private static int checkAt(int place, int[] data) {
        return Build.file(data, Tables.plain().with(Build.PLACES, 1, place).movie()).check();
    }

    private static void payload() {
        due.sentence("What follows the header up to the end of the box is its PAYLOAD.");
        due.is("behind a header of two", checkAt(2, Build.box(Build.DATA, Build.same(3, 1))), 0);
        due.is("in a header of two", checkAt(1, Build.box(Build.DATA, Build.same(4, 1))), 6);
        due.is("behind a header of four", checkAt(4, Build.longBox(Build.DATA, Build.same(3, 1))), 0);
        due.is("in a header of four", checkAt(3, Build.longBox(Build.DATA, Build.same(4, 1))), 6);
        due.is("to the end", checkAt(7, Build.box(Build.DATA, Build.same(8, 1))), 0);
        due.is("past the end", checkAt(8, Build.box(Build.DATA, Build.same(8, 1))), 6);
        due.is("to the end behind four", checkAt(9, Build.longBox(Build.DATA, Build.same(8, 1))), 0);
        due.is("past the end behind four", checkAt(10, Build.longBox(Build.DATA, Build.same(8, 1))), 6);
        due.is("a table's payload behind four", Build.file(Build.box(Build.DATA, Build.same(3, 1)), Build.box(Build.MOVIE,
            Tables.plain().without(Build.SIZES).track(Build.longBox(Build.SIZES, Build.bytes(1, 3))))).check(), 0);
    }

    private static void rowOfBoxes() {
        due.sentence("The file is a row of boxes, one behind the other, from its first byte to its end (the empty file is a "
            + "row of none)");
        due.is("boxes() of the empty file", new MovieBoxes().boxes(), 0);
        MovieBoxes x = Build.file(Build.bytes(2, 1), Build.bytes(3, 2, 0), Build.bytes(1, 3, 0, 5, 0), Build.bytes(0, 4, 0));
        due.is("boxes() of four", x.boxes(), 4);
        boxIs(x, 0, 0, 2, 2);
        boxIs(x, 1, 2, 3, 2);
        boxIs(x, 2, 5, 5, 4);
        boxIs(x, 3, 10, 3, 2);
        fault("a byte is left", 1, Build.bytes(2, 1), Build.bytes(2));
        MovieBoxes emptied = Build.file(Build.bytes(2, 1));
        emptied.cut(0);
        due.is("boxes() of the file emptied", emptied.boxes(), 0);
    }

    private static void rowOfBoxesInside() {
        due.sentence("so is the payload of each MOVIE and of each TRACK");
        due.is("boxes() of an empty movie", Build.file(Build.bytes(2, 77)).boxes(), 1);
        due.is("boxes() of an empty movie, long", Build.file(Build.bytes(1, 77, 0, 4)).boxes(), 1);
        due.is("boxes() of two movies of two", Build.file(Build.box(Build.MOVIE, Build.empties(2)),
            Build.box(Build.MOVIE, Build.empties(2))).boxes(), 6);
        due.is("boxes() of an empty track", Build.file(Build.box(Build.MOVIE, Build.bytes(2, 84))).boxes(), 2);
        due.is("boxes() of three tracks of two", Build.file(Build.box(Build.MOVIE, Build.box(Build.TRACK, Build.empties(2)),
            Build.box(Build.TRACK, Build.empties(2)), Build.box(Build.TRACK, Build.empties(2)))).boxes(), 10);
        fault("a byte is left in a movie", 1, Build.box(Build.MOVIE, Build.empties(1), Build.bytes(2)), Build.bytes(2, 32));
        fault("a byte is left in a second movie", 1, Build.box(Build.MOVIE), Build.box(Build.MOVIE, Build.bytes(2)), Build.bytes(2, 32));
        fault("a byte is left in a track", 1, Build.box(Build.MOVIE, Build.box(Build.TRACK, Build.empties(1), Build.bytes(2)),
            Build.bytes(2, 32)));
        fault("a byte is left in a second track", 1, Build.box(Build.MOVIE, Build.box(Build.TRACK), Build.box(Build.TRACK,
            Build.bytes(2)), Build.bytes(2, 32)));
    }
}
