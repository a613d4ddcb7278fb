/** Promises 25, 26 and 28 to 32 at their edges, sentence by sentence of the document: the image and shelves. */
public final class ShelfEdgesTest {
    private static final int LEAST = Integer.MIN_VALUE;
    private static final int MOST = Integer.MAX_VALUE;
    private static final int[] NO_SHELVES = {LEAST, -1, 8, MOST};

    public static void main(String[] args) {
        noImage();
        imageOfNothing();
        allIsAsItWas();
        imageStays();
        imageOfEightDeeds();
        shelvesStay();
        keepsOnEachShelf();
        keepsOfEachDeed();
        heldInPlaceOfOthers();
        keptStays();
        sizesOfRows();
        newElements();
        lowestBits();
        placesOfRows();
        elementsThrown();
        copiesOfAll();
        copiesOfNone();
        copiesBeyond();
        copiesOnItself();
        copiesOfSorts();
        copyShelves();
        Due.end();
    }

    private static void same(int promise, String what, BackwardYears x, BackwardYears y) {
        Due.is(promise, what, Whole.of(x).equals(Whole.of(y)) ? 1 : 0, 1);
    }

    // ---- promises 25 and 26

    /** "-3: there is none." */
    private static void noImage() {
        BackwardYears x = Due.town("ma;d0 a0 0;");
        Due.list(x, 1, 0);
        Due.is(26, "none", x.restore(), -3);
        x.even(1);
        Due.is(26, "still none", x.restore(), -3);
        Due.is(26, "nothing is restored", x.state(1), 1);
        Due.is(26, "nothing is restored", x.marks(), 1);
        Due.is(26, "no other object's either", new BackwardYears().restore(), -3);
    }

    /** "THE IMAGE is taken: the YEAR": of a new object, too. */
    private static void imageOfNothing() {
        BackwardYears x = new BackwardYears();
        Due.is(25, "image()", x.image(), 0);
        Due.is(26, "restore()", x.restore(), 0);
        Due.read(x, "d7abc j99 9;mj;c0;n99 -9;l2;");
        Due.list(x, 0);
        x.even(0);
        Due.is(26, "restored", x.restore(), 0);
        BackwardYears y = new BackwardYears();
        Due.list(y, 0);
        y.image();
        same(26, "all is as it was at first", x, y);
    }

    /** "THE IMAGE: all that there is ..; RESTORED all is as it was then": each thing changed by itself. */
    private static void allIsAsItWas() {
        String[] changes = {"d0 b0 0;", "mb;", "c7;", "n8 +2;", "n7 +3;", "l2;", "d0 b0 0;mb;c7;n8 +3;l2;"};
        for (String change : changes) {
            BackwardYears x = imaged();
            BackwardYears y = imaged();
            Due.read(x, change);
            Due.text(y, 0, change);
            Due.is(26, "restored behind " + change, x.restore(), 3);
            same(26, "all is as it was, but " + change, x, y);
        }
        for (int what = 0; what < 3; what++) {
            BackwardYears x = imaged();
            x.set(what, 0);
            x.restore();
            same(26, "all is as it was, but what " + what, x, imaged());
        }
        for (int pair = 0; pair < 2; pair++) {
            BackwardYears x = imaged();
            int answer = pair == 1 ? x.pair(1, 1) : x.even(1);
            Due.is(26, "a deed is done", answer, 1);
            Due.is(26, "the year", x.state(1), 4 + pair);
            x.restore();
            same(26, "all is as it was, but a year", x, imaged());
        }
    }

    /** A town at the odd YEAR 3, its IMAGE taken, a LIST in SHELF 1. */
    private static BackwardYears imaged() {
        BackwardYears x = Due.town("d1 c5 1;mj;c93;n7 +2;l1;");
        Due.list(x, 1);
        x.pair(1, 0);
        x.even(1);
        Due.list(x, 1, 0);
        Due.is(25, "the year", x.image(), 3);
        return x;
    }

    /** THE IMAGE is there behind it still, however often; taken anew it is another. */
    private static void imageStays() {
        BackwardYears x = imaged();
        for (int i = 0; i < 3; i++) {
            x.pair(1, 1);
            x.set(2, 50);
            Due.is(26, "restored", x.restore(), 3);
            Due.is(26, "coins", x.state(0), 93);
        }
        x.pair(1, 1);
        Due.is(25, "taken anew", x.image(), 5);
        x.set(2, 50);
        x.even(1);
        Due.is(26, "restored", x.restore(), 5);
        Due.is(26, "coins", x.state(0), 93 - 6 - 7);
        Due.is(26, "marks", x.marks(), 516);
        Due.is(25, "taken of what is restored", x.image(), 5);
        Due.is(26, "restored", x.restore(), 5);
        // A refused call leaves it.
        x.town(7);
        x.pair(7, 0);
        Due.is(26, "restored", x.restore(), 5);
    }

    /** All eight DEEDS in it, and none. */
    private static void imageOfEightDeeds() {
        BackwardYears x = new BackwardYears();
        x.image();
        Due.read(x, "d0 a1 1;d1 b2 2;d2 c3 3;d3 d4 4;d4 e5 5;d5 f6 6;d6 g7 7;d7 h8 8;");
        x.restore();
        Due.is(26, "no deeds", x.count(0), 0);
        Due.read(x, "d7 j9 9;d7 i8 8;d7 h7 7;d7 g6 6;d7 f5 5;d7 e4 4;d7 d3 3;d7 c2 2;");
        x.image();
        Due.is(26, "restored", x.restore(), 0);
        Due.is(26, "eight deeds", x.count(0), 8);
        for (int deed = 0; deed < 8; deed++) {
            Due.is(26, "kind of deed " + deed, x.deed(deed, 0), 7);
            Due.is(26, "makes of deed " + deed, x.deed(deed, 2), 9 - deed);
            Due.is(26, "figure of deed " + deed, x.deed(deed, 4), 9 - deed);
        }
    }

    /** "when THE IMAGE is RESTORED, SHELVES stay as they are": what is held now, not what was then. */
    private static void shelvesStay() {
        BackwardYears x = Due.town("d5 a0 9;");
        Due.list(x, 1, 0);
        x.keep(2, 1, 0);
        Due.row(x, 3, Due.INTS, 5);
        Due.row(x, 4, Due.SHORTS, 6);
        x.image();
        Due.read(x, "d7 b0 7;");
        x.keep(1, 1, 1);
        x.keep(2, 0, 0);
        x.put(3, 0, 7);
        x.keep(5, 1, 1);
        Due.row(x, 6, Due.BYTES, 1);
        x.restore();
        Due.is(26, "a deed in place of a row", x.care(1), 7);
        Due.is(26, "its failure", x.toss(1), 207);
        Due.is(26, "nothing in place of a deed", x.care(2), -11);
        Due.is(26, "another element", x.element(3, 0), 7);
        Due.is(26, "what was there", x.element(4, 0), 6);
        Due.is(26, "a deed that isn't any more", x.care(5), 7);
        Due.is(26, "a row of that deed", x.even(6), -13);
        Due.is(26, "the text that was read", x.element(0, 1), '7');
        Due.is(26, "no deed 1 to keep", x.keep(7, 1, 1), -1);
    }

    // ---- promise 28

    /** "SHELVES 0 .. 7": each by itself; "what = 0 nothing (the others do not matter)". */
    private static void keepsOnEachShelf() {
        for (int d = 0; d < 8; d++) {
            BackwardYears x = Due.town("d1 a1 1;");
            x.keep(0, 0, 0);
            Due.is(28, "keep(" + d + ", 1, 0)", x.keep(d, 1, 0), 0);
            for (int other = 0; other < 8; other++) {
                Due.is(28, "shelf " + other, x.care(other), other == d ? 12 : -11);
            }
            for (int k : new int[] {LEAST, -1, 0, 1, 8, MOST}) {
                x.keep(d, 1, 0);
                Due.is(28, "keep(" + d + ", 0, " + k + ")", x.keep(d, 0, k), 0);
                Due.is(28, "nothing in shelf " + d, x.care(d), -11);
                Due.is(28, "nothing for nothing", x.keep(d, 0, k), 0);
            }
        }
        BackwardYears x = Due.town("d1 a1 1;");
        for (int d : NO_SHELVES) {
            Due.is(28, "keep(" + d + ", 0, 0)", x.keep(d, 0, 0), -1);
            Due.is(28, "keep(" + d + ", 1, 0)", x.keep(d, 1, 0), -1);
        }
        for (int what : new int[] {LEAST, -1, 2, MOST}) {
            Due.is(28, "keep(1, " + what + ", 0)", x.keep(1, what, 0), -1);
        }
        Due.is(28, "nothing is kept", x.care(1), -11);
        // "nothing": also of a town without DEEDS.
        Due.is(28, "without deeds", new BackwardYears().keep(7, 0, 0), 0);
    }

    /** "1 DEED k: 0. -1.": the first, the last, the number behind it. */
    private static void keepsOfEachDeed() {
        BackwardYears x = Due.town("d0 a0 1;d1 a0 1;d2 a5 1;d3 a9 1;d4 a0 1;d5 a0 1;d6 a0 1;");
        Due.is(28, "no eighth", x.keep(7, 1, 7), -1);
        Due.read(x, "d7 a0 8;");
        int[] cares = {4, 12, 9, 12, 1, 13, 8, 8};
        for (int k = 0; k < 8; k++) {
            Due.is(28, "keep(7, 1, " + k + ")", x.keep(7, 1, k), 0);
            Due.is(28, "care of deed " + k, x.care(7), cares[k]);
        }
        for (int k : NO_SHELVES) {
            Due.is(28, "keep(7, 1, " + k + ")", x.keep(7, 1, k), -1);
        }
        Due.is(28, "the last one is still held", x.care(7), 8);
    }

    /** "each hold nothing (at first), a DEED, a ROW": one of them, and nothing of what was there before. */
    private static void heldInPlaceOfOthers() {
        BackwardYears x = Due.town("d1 a0 1;");
        for (int sort = Due.BYTES; sort <= Due.INTS; sort++) {
            x.keep(6, 1, 0);
            x.row(6, sort, 3);
            Due.is(29, "a row in place of a deed", x.care(6), -12);
            Due.is(29, "its failure", x.toss(6), -12);
            Due.is(29, "its last place", x.put(6, 2, 1), 0);
            x.keep(6, 1, 0);
            Due.is(28, "a deed in place of a row", x.care(6), 12);
            Due.is(28, "its elements", x.put(6, 2, 1), -12);
            Due.is(28, "its text", x.town(6), -12);
            x.keep(6, 0, 0);
            Due.is(28, "nothing in place of a deed", x.toss(6), -11);
            x.row(6, sort, 3);
            Due.is(29, "a row in place of nothing", x.element(6, 2), 0);
            x.keep(6, 0, 0);
            Due.is(28, "nothing in place of a row", x.put(6, 0, 1), -11);
            Due.is(28, "nothing in place of a row", thrown(x, 6, 0), 2);
        }
    }

    /** "what is taken from a SHELF, stay[s] there": CARE, FAILURE, LISTS, WORTHS, what is told. */
    private static void keptStays() {
        BackwardYears x = Due.town("d5 a0 8;d0 b0 0;");
        x.keep(2, 1, 0);
        Due.list(x, 1, 1, 0, 1);
        Due.row(x, 3, Due.SHORTS, 9, 8, 7, 6, 5, 4, 3, 2, 1, 0);
        BackwardYears y = Due.town("d5 a0 8;d0 b0 0;");
        y.keep(2, 1, 0);
        Due.list(y, 1, 1, 0, 1);
        Due.row(y, 3, Due.SHORTS, 9, 8, 7, 6, 5, 4, 3, 2, 1, 0);
        x.care(2);
        x.toss(2);
        x.lasts(1, 1, 0);
        x.why(1, 1, 0);
        x.behind(1, 1, 0);
        x.least(1, 3, 0);
        x.free(1, 3, 0);
        x.plan(2, 3, 0);
        x.ever();
        x.help();
        x.two(1, 1, 3, 3, 0);
        x.month();
        x.nail(1);
        x.byLaw(2, 1, 1);
        x.seeded(30, 5, 0);
        x.judge(1, 1, 3);
        x.may(0);
        same(28, "what only answers changes nothing", x, y);
    }

    // ---- promises 29 and 30

    /** "0 .. 100 elements"; "-1 (n above 100); -14". */
    private static void sizesOfRows() {
        BackwardYears x = Due.town("d0 a0 0;");
        for (int sort = Due.BYTES; sort <= Due.INTS; sort++) {
            for (int size : new int[] {0, 1, 99, 100}) {
                Due.is(29, "row(1, " + sort + ", " + size + ")", x.row(1, sort, size), 0);
                Due.is(30, "its last place", x.put(1, size - 1, 5), size == 0 ? -13 : 0);
                Due.is(30, "one beyond", x.put(1, size, 5), -13);
            }
            for (int size : new int[] {101, 102, MOST}) {
                Due.is(29, "row(1, " + sort + ", " + size + ")", x.row(1, sort, size), -1);
            }
            for (int size : new int[] {-1, -100, LEAST}) {
                Due.is(29, "row(1, " + sort + ", " + size + ")", x.row(1, sort, size), -14);
            }
            Due.is(29, "the row is as it was", x.element(1, 99), 5);
        }
        for (int d = 0; d < 8; d++) {
            Due.is(29, "shelf " + d, x.row(d, 2, 100), 0);
            Due.is(30, "shelf " + d, x.put(d, 99, d), 0);
        }
        for (int d = 0; d < 8; d++) {
            Due.is(29, "each shelf has its own", x.element(d, 99), d);
        }
        for (int size : new int[] {-1, 0, 100, 101}) {
            for (int d : NO_SHELVES) {
                Due.is(29, "row(" + d + ", 0, " + size + ")", x.row(d, 0, size), -1);
            }
            for (int sort : new int[] {LEAST, -1, 3, MOST}) {
                Due.is(29, "row(0, " + sort + ", " + size + ")", x.row(0, sort, size), -1);
            }
        }
        Due.is(29, "the row is as it was", x.element(7, 99), 7);
    }

    /** "elements, 0 at first": also where others were held before. */
    private static void newElements() {
        BackwardYears x = new BackwardYears();
        x.row(3, Due.INTS, 100);
        for (int i = 0; i < 100; i++) {
            Due.is(29, "element " + i + " of a new row", x.element(3, i), 0);
            x.put(3, i, -1 - i);
        }
        x.row(3, Due.BYTES, 1);
        Due.is(29, "a short one", x.element(3, 0), 0);
        x.put(3, 0, 7);
        x.row(3, Due.SHORTS, 100);
        for (int i = 0; i < 100; i++) {
            Due.is(29, "element " + i + " of a new row", x.element(3, i), 0);
        }
        x.put(3, 0, 7);
        x.row(3, Due.SHORTS, 0);
        x.row(3, Due.SHORTS, 1);
        Due.is(29, "behind an empty one", x.element(3, 0), 0);
    }

    private static void putIs(BackwardYears x, int d, int v, int due) {
        Due.is(30, "put(" + d + ", 0, " + v + ")", x.put(d, 0, v), 0);
        Due.is(30, "element behind put of " + v, x.element(d, 0), due);
    }

    /** "what is put in keeps its lowest bits": the last number of a SORT, the first that wraps around. */
    private static void lowestBits() {
        BackwardYears x = new BackwardYears();
        x.row(0, Due.BYTES, 1);
        int[] bytes = {0, 0, 127, 127, 128, -128, 255, -1, 256, 0, 257, 1, 32767, -1, 32768, 0, 65535, -1, -1, -1,
            -128, -128, -129, 127, -256, 0, -257, -1, MOST, -1, LEAST, 0, 0x12345678, 0x78};
        for (int i = 0; i < bytes.length; i += 2) {
            putIs(x, 0, bytes[i], bytes[i + 1]);
        }
        x.row(1, Due.SHORTS, 1);
        int[] shorts = {0, 0, 127, 127, 128, 128, 255, 255, 32767, 32767, 32768, -32768, 65535, -1, 65536, 0, 65537, 1,
            -1, -1, -32768, -32768, -32769, 32767, -65536, 0, -65537, -1, MOST, -1, LEAST, 0, 0x12345678, 0x5678};
        for (int i = 0; i < shorts.length; i += 2) {
            putIs(x, 1, shorts[i], shorts[i + 1]);
        }
        x.row(2, Due.INTS, 1);
        for (int v : new int[] {0, -1, 255, 65536, -65537, MOST, LEAST}) {
            putIs(x, 2, v, v);
        }
    }

    /** "Element i of the ROW becomes v: 0. -1, -11, -12, -13." */
    private static void placesOfRows() {
        BackwardYears x = Due.town("d0 a0 0;");
        x.row(1, Due.INTS, 100);
        for (int i = 0; i < 100; i++) {
            Due.is(30, "put(1, " + i + ", v)", x.put(1, i, 1000 + i), 0);
        }
        for (int i = 0; i < 100; i++) {
            Due.is(31, "element(1, " + i + ")", x.element(1, i), 1000 + i);
        }
        for (int i : new int[] {LEAST, -1, 100, 101, MOST}) {
            Due.is(30, "put(1, " + i + ", v)", x.put(1, i, 5), -13);
            for (int d : NO_SHELVES) {
                Due.is(30, "put(" + d + ", " + i + ", v)", x.put(d, i, 5), -1);
            }
            Due.is(30, "nothing held", x.put(2, i, 5), -11);
        }
        x.keep(2, 1, 0);
        Due.is(30, "a deed", x.put(2, 0, 5), -12);
        Due.is(30, "a deed, no place", x.put(2, -1, 5), -12);
        x.row(2, Due.BYTES, 0);
        Due.is(30, "an empty row", x.put(2, 0, 5), -13);
        Due.is(30, "the first is as it was", x.element(1, 0), 1000);
        Due.is(30, "the last is as it was", x.element(1, 99), 1099);
    }

    // ---- promise 31

    /** 1 IllegalArgumentException, 2 IllegalStateException, 0 nothing is thrown. */
    private static int thrown(BackwardYears x, int d, int i) {
        try {
            x.element(d, i);
            return 0;
        } catch (IllegalArgumentException e) {
            return e.getClass() == IllegalArgumentException.class ? 1 : 3;
        } catch (IllegalStateException e) {
            return e.getClass() == IllegalStateException.class ? 2 : 3;
        }
    }

    /** "IllegalArgumentException: no such SHELF; IllegalStateException: no ROW, no such place." */
    private static void elementsThrown() {
        BackwardYears x = Due.town("d0 a0 0;");
        x.keep(1, 1, 0);
        x.row(2, Due.BYTES, 0);
        x.row(3, Due.SHORTS, 1);
        x.row(4, Due.INTS, 100);
        for (int i : new int[] {LEAST, -1, 0, 99, 100, MOST}) {
            for (int d : NO_SHELVES) {
                Due.is(31, "element(" + d + ", " + i + ")", thrown(x, d, i), 1);
            }
            Due.is(31, "nothing held, place " + i, thrown(x, 5, i), 2);
            Due.is(31, "a deed, place " + i, thrown(x, 1, i), 2);
            Due.is(31, "an empty row, place " + i, thrown(x, 2, i), 2);
            Due.is(31, "a row of one, place " + i, thrown(x, 3, i), i == 0 ? 0 : 2);
            Due.is(31, "a row of a hundred, place " + i, thrown(x, 4, i), i == 0 || i == 99 ? 0 : 2);
        }
        for (int d = 0; d < 8; d++) {
            x.row(d, Due.INTS, 1);
            Due.is(31, "shelf " + d, thrown(x, d, 0), 0);
        }
    }

    // ---- promise 32

    private static void copyIs(BackwardYears x, int d, int i, int e, int j, int n, int due) {
        Due.is(32, "copy(" + d + ", " + i + ", " + e + ", " + j + ", " + n + ")", x.copy(d, i, e, j, n), due);
    }

    /** A row of INTS that counts up. */
    private static void counting(BackwardYears x, int d, int size, int first) {
        x.row(d, Due.INTS, size);
        for (int i = 0; i < size; i++) {
            x.put(d, i, first + i);
        }
    }

    /** "n elements .. from i on come to that in SHELF e from j on: n": all hundred, the first, the last. */
    private static void copiesOfAll() {
        BackwardYears x = new BackwardYears();
        counting(x, 1, 100, 1000);
        x.row(2, Due.INTS, 100);
        copyIs(x, 1, 0, 2, 0, 100, 100);
        for (int i = 0; i < 100; i++) {
            Due.is(32, "element " + i, x.element(2, i), 1000 + i);
        }
        copyIs(x, 1, 99, 2, 0, 1, 1);
        Due.is(32, "the last to the first", x.element(2, 0), 1099);
        Due.is(32, "no more than that", x.element(2, 1), 1001);
        copyIs(x, 1, 0, 2, 99, 1, 1);
        Due.is(32, "the first to the last", x.element(2, 99), 1000);
        Due.is(32, "no more than that", x.element(2, 98), 1098);
        x.row(7, Due.INTS, 3);
        copyIs(x, 1, 49, 7, 1, 2, 2);
        Due.is(32, "ahead of them", x.element(7, 0), 0);
        Due.is(32, "one", x.element(7, 1), 1049);
        Due.is(32, "two", x.element(7, 2), 1050);
        Due.is(32, "what is copied stays", x.element(1, 49), 1049);
        Due.is(32, "what is copied stays", x.element(1, 99), 1099);
        // What is put into the one behind it doesn't change the other.
        x.put(1, 49, 5);
        Due.is(32, "it is a copy", x.element(7, 1), 1049);
    }

    /** None are copied at each place that there is, also at the end, also of empty rows. */
    private static void copiesOfNone() {
        BackwardYears x = new BackwardYears();
        counting(x, 1, 2, 5);
        x.row(2, Due.INTS, 0);
        for (int i = 0; i <= 2; i++) {
            copyIs(x, 1, i, 2, 0, 0, 0);
            copyIs(x, 2, 0, 1, i, 0, 0);
        }
        copyIs(x, 2, 0, 2, 0, 0, 0);
        copyIs(x, 1, 3, 2, 0, 0, -13);
        copyIs(x, 2, 0, 1, 3, 0, -13);
        copyIs(x, 2, 1, 1, 0, 0, -13);
        copyIs(x, 1, -1, 2, 0, 0, -13);
        copyIs(x, 1, 0, 2, -1, 0, -13);
        Due.is(32, "as it was", x.element(1, 0), 5);
        Due.is(32, "as it was", x.element(1, 1), 6);
    }

    /** "-13 (n below 0, too)": a place too many of either row, numbers that would wrap around. */
    private static void copiesBeyond() {
        BackwardYears x = new BackwardYears();
        counting(x, 1, 4, 10);
        counting(x, 2, 3, 20);
        copyIs(x, 1, 0, 2, 0, 4, -13);
        copyIs(x, 2, 0, 1, 0, 4, -13);
        copyIs(x, 1, 2, 2, 0, 3, -13);
        copyIs(x, 1, 0, 2, 1, 3, -13);
        copyIs(x, 1, 4, 2, 0, 1, -13);
        copyIs(x, 1, 0, 2, 3, 1, -13);
        copyIs(x, 1, -1, 2, 0, 1, -13);
        copyIs(x, 1, 0, 2, -1, 1, -13);
        for (int n : new int[] {LEAST, -2, -1, 101, MOST}) {
            copyIs(x, 1, 0, 2, 0, n, -13);
            copyIs(x, 1, 1, 2, 1, n, -13);
            copyIs(x, 1, MOST, 2, 0, n, -13);
            copyIs(x, 1, LEAST, 2, 0, n, -13);
            copyIs(x, 1, 0, 2, MOST, n, -13);
            copyIs(x, 1, 0, 2, LEAST, n, -13);
        }
        copyIs(x, 1, MOST, 2, 0, 1, -13);
        copyIs(x, 1, LEAST, 2, 0, 1, -13);
        for (int i = 0; i < 3; i++) {
            Due.is(32, "as it was", x.element(1, i), 10 + i);
            Due.is(32, "as it was", x.element(2, i), 20 + i);
        }
        copyIs(x, 1, 1, 2, 0, 3, 3);
        Due.is(32, "as many as there are", x.element(2, 2), 13);
    }

    /** One row to itself: what comes is what was there before. */
    private static void copiesOnItself() {
        BackwardYears x = new BackwardYears();
        int[][] due = {{0, 0, 1, 2, 3, 4}, {1, 2, 3, 4, 5, 5}, {0, 1, 2, 3, 4, 5}};
        int[][] places = {{0, 1, 5}, {1, 0, 5}, {0, 0, 6}};
        for (int k = 0; k < due.length; k++) {
            counting(x, 3, 6, 0);
            copyIs(x, 3, places[k][0], 3, places[k][1], places[k][2], places[k][2]);
            for (int i = 0; i < 6; i++) {
                Due.is(32, "element " + i + " on itself", x.element(3, i), due[k][i]);
            }
        }
    }

    /** "-12 (no ROWS of one SORT)": each SORT with each. */
    private static void copiesOfSorts() {
        BackwardYears x = Due.town("d0 a0 0;");
        for (int sort = Due.BYTES; sort <= Due.INTS; sort++) {
            Due.row(x, 1 + sort, sort, -1 - sort, 1 << 20);
            Due.row(x, 4 + sort, sort, 0, 0);
        }
        for (int from = 0; from < 3; from++) {
            for (int to = 0; to < 3; to++) {
                copyIs(x, 1 + from, 0, 4 + to, 0, 2, from == to ? 2 : -12);
                copyIs(x, 1 + from, 0, 4 + to, 0, 0, from == to ? 0 : -12);
                copyIs(x, 1 + from, 0, 4 + to, 0, -1, from == to ? -13 : -12);
            }
            Due.is(32, "element of sort " + from, x.element(4 + from, 0), -1 - from);
            Due.is(32, "element of sort " + from, x.element(4 + from, 1), from == 2 ? 1 << 20 : 0);
        }
        x.keep(0, 1, 0);
        x.keep(7, 1, 0);
        copyIs(x, 0, 0, 1, 0, 0, -12);
        copyIs(x, 1, 0, 0, 0, 0, -12);
        copyIs(x, 0, 0, 7, 0, 0, -12);
        copyIs(x, 0, 0, 0, 0, -1, -12);
        Due.is(32, "the deed stays", x.care(0), 4);
    }

    /** "-1, -11 (either)": each SHELF. */
    private static void copyShelves() {
        BackwardYears x = Due.town("d0 a0 0;");
        x.keep(0, 0, 0);
        counting(x, 1, 2, 0);
        x.keep(2, 1, 0);
        for (int none : NO_SHELVES) {
            for (int d = 0; d < 4; d++) {
                copyIs(x, none, 0, d, 0, -1, -1);
                copyIs(x, d, 0, none, 0, -1, -1);
            }
            copyIs(x, none, 0, none, 0, 0, -1);
        }
        for (int d = 0; d < 4; d++) {
            copyIs(x, 0, 0, d, 0, -1, -11);
            copyIs(x, d, 0, 0, 0, -1, -11);
            copyIs(x, 3, 0, d, 0, 0, -11);
        }
        for (int d = 3; d < 8; d++) {
            counting(x, d, 1, d);
            copyIs(x, d, 0, 1, 0, 1, 1);
            Due.is(32, "from shelf " + d, x.element(1, 0), d);
        }
    }
}
