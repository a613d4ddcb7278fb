/** Promises 25 to 34: the image, what is counted, shelves. */
public final class ShelvesTest {
    public static void main(String[] args) {
        images();
        imageLeavesShelves();
        counts();
        keeps();
        rows();
        elements();
        copies();
        cares();
        tosses();
        Due.end();
    }

    private static void images() {
        BackwardYears x = Due.town("ma;d0 b1 0;c50;n7 -3;l1;");
        Due.is(26, "none", x.restore(), -3);
        Due.list(x, 1, 0);
        x.even(1);
        Due.is(25, "image()", x.image(), 1);
        Due.read(x, "mc;d0 c1 0;c9;n1 +1;l2;");
        x.pair(1, 1);
        Due.is(26, "restore()", x.restore(), 1);
        Due.is(26, "year", x.state(1), 1);
        Due.is(26, "coins", x.state(0), 49);
        Due.is(26, "law", x.state(2), 1);
        Due.is(26, "nail", x.state(3), 7);
        Due.is(26, "rise", x.rise(), -3);
        Due.is(26, "marks", x.marks(), 3);
        Due.is(26, "deeds", x.count(0), 1);
        Due.is(26, "no deed 1", x.deed(1, 0), -1);
        x.pair(1, 0);
        Due.is(26, "again", x.restore(), 1);
        Due.read(x, "d3 d4 5;");
        Due.is(26, "another deed 1", x.deed(1, 0), 3);
        Due.is(25, "taken anew", x.image(), 1);
        x.pair(1, 0);
        Due.is(25, "taken anew", x.image(), 3);
        Due.is(26, "restored", x.restore(), 3);
        Due.is(26, "two deeds", x.count(0), 2);
    }

    private static void imageLeavesShelves() {
        BackwardYears x = new BackwardYears();
        x.image();
        Due.read(x, "d7 a1 6;");
        x.keep(3, 1, 0);
        Due.list(x, 4, 0);
        Due.is(26, "restored", x.restore(), 0);
        Due.is(26, "no deed", x.count(0), 0);
        Due.is(26, "the shelf's deed is still there", x.care(3), 6);
        Due.is(26, "and its failure", x.toss(3), 206);
        Due.is(26, "the row is still there", x.element(4, 0), 0);
        Due.is(26, "though its deed isn't", x.pair(4, 0), -13);
        Due.read(x, "d0 a1 6;");
        Due.is(26, "nor is it another deed of that number", x.care(3), 6);
    }

    private static void counts() {
        BackwardYears x = Due.town("d0 a10 1;d4 b20 5;d5 c30 9;d6c d5 1;d6 a1 1;d7 a99 4;mj;mb;");
        Due.is(27, "count(0)", x.count(0), 6);
        Due.is(27, "count(1)", x.count(1), 2);
        Due.is(27, "count(2)", x.count(2), 5);
        Due.is(27, "count(3)", x.count(3), 2);
        Due.is(27, "count(4)", x.count(4), 2);
        Due.is(27, "count(5)", x.count(5), 165);
        x.set(2, 9);
        Due.is(27, "count(2)", x.count(2), 3);
        Due.is(27, "count(6)", x.count(6), -1);
        Due.is(27, "count(-1)", x.count(-1), -1);
    }

    private static void keeps() {
        BackwardYears x = Due.town("d0 a1 1;d1 a1 1;");
        Due.is(28, "keep(7, 1, 1)", x.keep(7, 1, 1), 0);
        Due.is(28, "care", x.care(7), 12);
        Due.is(28, "no deed 2", x.keep(7, 1, 2), -1);
        Due.is(28, "no deed -1", x.keep(7, 1, -1), -1);
        Due.is(28, "what 2", x.keep(7, 2, 0), -1);
        Due.is(28, "what -1", x.keep(7, -1, 0), -1);
        Due.is(28, "shelf 8", x.keep(8, 1, 0), -1);
        Due.is(28, "shelf -1", x.keep(-1, 0, 0), -1);
        Due.is(28, "a refused call changes nothing", x.care(7), 12);
        Due.is(28, "nothing, the rest does not matter", x.keep(7, 0, -99), 0);
        Due.is(28, "nothing is held", x.care(7), -11);
        Due.row(x, 6, Due.INTS, 5);
        Due.is(28, "a deed for a row", x.keep(6, 1, 0), 0);
        Due.is(28, "the row is gone", x.put(6, 0, 1), -12);
        Due.row(x, 6, Due.INTS, 5);
        Due.is(28, "nothing for a row", x.keep(6, 0, 0), 0);
        Due.is(28, "the row is gone", x.put(6, 0, 1), -11);
    }

    private static void rows() {
        BackwardYears x = Due.town("d0 a1 1;");
        Due.is(29, "row(0, 2, 100)", x.row(0, 2, 100), 0);
        Due.is(29, "its last element", x.element(0, 99), 0);
        x.put(0, 99, 7);
        x.put(0, 0, 7);
        Due.is(29, "a new one", x.row(0, 2, 100), 0);
        Due.is(29, "is 0 all through", x.element(0, 0), 0);
        Due.is(29, "is 0 all through", x.element(0, 99), 0);
        x.put(0, 99, 7);
        Due.is(29, "row(0, 2, 101)", x.row(0, 2, 101), -1);
        Due.is(29, "sort 3", x.row(0, 3, 1), -1);
        Due.is(29, "sort -1", x.row(0, -1, -1), -1);
        Due.is(29, "shelf 8", x.row(8, 0, -1), -1);
        Due.is(29, "shelf -1", x.row(-1, 0, 1), -1);
        Due.is(29, "size -1", x.row(0, 2, -1), -14);
        Due.is(29, "a refused call changes nothing", x.element(0, 99), 7);
        x.keep(1, 1, 0);
        Due.is(29, "a row for a deed", x.row(1, 0, 0), 0);
        Due.is(29, "the deed is gone", x.care(1), -12);
        Due.is(30, "put(0, 0, v)", x.put(0, 0, Integer.MIN_VALUE), 0);
        Due.is(30, "an int", x.element(0, 0), Integer.MIN_VALUE);
        x.row(0, 1, 1);
        x.put(0, 0, 32768);
        Due.is(30, "a short", x.element(0, 0), -32768);
        x.put(0, 0, 65536 + 5);
        Due.is(30, "a short", x.element(0, 0), 5);
        x.row(0, 0, 1);
        x.put(0, 0, 255);
        Due.is(30, "a byte", x.element(0, 0), -1);
        x.put(0, 0, -129);
        Due.is(30, "a byte", x.element(0, 0), 127);
        Due.is(30, "place 1 of 1", x.put(0, 1, 0), -13);
        Due.is(30, "place -1", x.put(0, -1, 0), -13);
        Due.is(30, "shelf 8", x.put(8, 0, 0), -1);
        Due.is(30, "shelf -1", x.put(-1, 0, 0), -1);
        Due.is(30, "nothing held", x.put(5, 0, 0), -11);
        x.keep(5, 1, 0);
        Due.is(30, "a deed held", x.put(5, 0, 0), -12);
    }

    /** 1 IllegalArgumentException, 2 IllegalStateException, 0 nothing is thrown. */
    private static int thrown(BackwardYears x, int d, int i) {
        try {
            x.element(d, i);
            return 0;
        } catch (IllegalArgumentException e) {
            return e.getClass() == IllegalArgumentException.class ? 1 : 3;
        } catch (IllegalStateException e) {
            return e.getClass() == IllegalStateException.class ? 2 : 3;
        }
    }

    private static void elements() {
        BackwardYears x = Due.town("d0 a1 1;");
        x.keep(1, 1, 0);
        Due.row(x, 2, Due.INTS, 5, -6);
        Due.is(31, "element(2, 1)", x.element(2, 1), -6);
        Due.is(31, "shelf 8", thrown(x, 8, 0), 1);
        Due.is(31, "shelf -1", thrown(x, -1, 9), 1);
        Due.is(31, "nothing held", thrown(x, 3, 0), 2);
        Due.is(31, "a deed held", thrown(x, 1, 0), 2);
        Due.is(31, "place 2 of 2", thrown(x, 2, 2), 2);
        Due.is(31, "place -1", thrown(x, 2, -1), 2);
    }

    private static void rowIs(int promise, BackwardYears x, int d, int... due) {
        for (int i = 0; i < due.length; i++) {
            Due.is(promise, "element(" + d + ", " + i + ")", x.element(d, i), due[i]);
        }
    }

    private static void copies() {
        BackwardYears x = Due.town("d0 a1 1;");
        Due.row(x, 1, Due.INTS, 1, 2, 3, 4, 5);
        Due.row(x, 2, Due.INTS, 6, 7, 8);
        Due.is(32, "copy(1, 3, 2, 0, 2)", x.copy(1, 3, 2, 0, 2), 2);
        rowIs(32, x, 2, 4, 5, 8);
        rowIs(32, x, 1, 1, 2, 3, 4, 5);
        Due.is(32, "on itself, upwards", x.copy(1, 0, 1, 1, 4), 4);
        rowIs(32, x, 1, 1, 1, 2, 3, 4);
        Due.is(32, "on itself, downwards", x.copy(1, 1, 1, 0, 4), 4);
        rowIs(32, x, 1, 1, 2, 3, 4, 4);
        Due.is(32, "none at the end", x.copy(1, 5, 2, 3, 0), 0);
        Due.is(32, "none beyond the end", x.copy(1, 6, 2, 3, 0), -13);
        Due.is(32, "none beyond the other's end", x.copy(1, 5, 2, 4, 0), -13);
        Due.is(32, "n below 0", x.copy(1, 0, 2, 0, -1), -13);
        Due.is(32, "i below 0", x.copy(1, -1, 2, 0, 1), -13);
        Due.is(32, "j below 0", x.copy(1, 0, 2, -1, 1), -13);
        Due.is(32, "too many of the one", x.copy(2, 1, 1, 0, 3), -13);
        Due.is(32, "too many of the other", x.copy(1, 0, 2, 1, 3), -13);
        Due.is(32, "far too many", x.copy(1, Integer.MAX_VALUE, 2, 0, Integer.MAX_VALUE), -13);
        Due.is(32, "far too many", x.copy(1, 1, 2, 1, Integer.MAX_VALUE), -13);
        Due.is(32, "shelf 8", x.copy(5, 0, 8, 0, -1), -1);
        Due.is(32, "shelf -1", x.copy(-1, 0, 5, 0, 0), -1);
        x.keep(3, 1, 0);
        Due.is(32, "nothing held ahead of a deed", x.copy(3, 0, 5, 0, -1), -11);
        Due.is(32, "nothing held ahead of a deed", x.copy(5, 0, 3, 0, -1), -11);
        Due.is(32, "a deed", x.copy(3, 0, 1, 0, -1), -12);
        Due.is(32, "a deed", x.copy(1, 0, 3, 0, 0), -12);
        Due.is(32, "two deeds", x.copy(3, 0, 3, 0, 0), -12);
        Due.row(x, 4, Due.SHORTS, 1, 2);
        Due.is(32, "another sort", x.copy(4, 0, 1, 0, -1), -12);
        rowIs(32, x, 1, 1, 2, 3, 4, 4);
    }

    private static void cares() {
        BackwardYears x = Due.town(TownsTest.ALL_KINDS);
        int[] due = {4, 12, 13, 6, 1, 13, 8, 7};
        for (int i = 0; i < 8; i++) {
            x.keep(2, 1, i);
            Due.is(33, "care of kind " + i, x.care(2), due[i]);
        }
        x = Due.town("d3 a0 9;d7 a0 0;d2 a99 0;");
        x.keep(2, 1, 0);
        Due.is(33, "below 0", x.care(2), -5);
        x.keep(2, 1, 1);
        Due.is(33, "sworn, times 0", x.care(2), 0);
        x.keep(2, 1, 2);
        Due.is(33, "spent, and 99", x.care(2), 103);
        Due.is(33, "care(8)", x.care(8), -1);
        Due.is(33, "care(-1)", x.care(-1), -1);
        Due.is(33, "nothing held", x.care(3), -11);
        x.row(3, 0, 0);
        Due.is(33, "a row", x.care(3), -12);
    }

    private static void tosses() {
        BackwardYears x = Due.town(TownsTest.ALL_KINDS);
        int[] due = {0, 1, 2, -15, 4, 105, 6, 207};
        for (int i = 0; i < 8; i++) {
            x.keep(2, 1, i);
            Due.is(34, "toss of kind " + i, x.toss(2), due[i]);
        }
        x = Due.town("d0 a9 0;d1 a9 0;d2 a9 0;d3 a9 0;d4 a9 0;d5 a9 0;d6 a9 0;d7 a9 0;");
        for (int i = 0; i < 8; i++) {
            x.keep(2, 1, i);
            Due.is(34, "toss of kind " + i + " with figure 0", x.toss(2), -15);
        }
        Due.is(34, "toss(8)", x.toss(8), -1);
        Due.is(34, "toss(-1)", x.toss(-1), -1);
        Due.is(34, "nothing held", x.toss(3), -11);
        x.row(3, 0, 0);
        Due.is(34, "a row", x.toss(3), -12);
    }
}
