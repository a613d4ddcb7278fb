/** Promises 14 to 21, 23 and 24 at their edges, sentence by sentence of the document's part 3 (nails, plans, seeds). */
public final class PlanEdgesTest {
    private static final int LEAST = Integer.MIN_VALUE;
    private static final int MOST = Integer.MAX_VALUE;
    private static final int FAR = -1000000000;
    /** Each DEED NEEDS what the one ahead of it makes. */
    private static final String CHAIN =
            "d0 a0 0;d0a b0 0;d0b c0 0;d0c d0 0;d0d e0 0;d0e f0 0;d0f g0 0;d0g h0 0;";
    /** The same of five that KEEP. */
    private static final String KEPT_CHAIN = "d4 a0 5;d4a b0 5;d4b c0 5;d4c d0 5;d4d e0 5;";
    private static final String ALL_MARKS = "ma;mb;mc;md;me;mf;mg;mh;mi;mj;";

    public static void main(String[] args) {
        leastOfNone();
        leastOfEight();
        leastFewest();
        leastCost();
        leastBits();
        leastCoins();
        leastArguments();
        freeBySize();
        freeOrders();
        freeFewest();
        freeFirst();
        freeArguments();
        planWithoutDeeds();
        planOfTwoDeeds();
        planOfUnlikeDeeds();
        planOfSeveral();
        planAgain();
        planOfTwoPairs();
        planWorths();
        planArguments();
        everReached();
        helpGiven();
        twoSizes();
        twoOfSixteen();
        twoInTurn();
        months();
        nailPlaces();
        seedsByPairs();
        seedArguments();
        judgedPlaces();
        judgedSkips();
        judgedBeyond();
        judgedSorts();
        Due.end();
    }

    // ---- promise 14

    private static void leastIs(BackwardYears x, int marks, int many, int paid, int nails) {
        Due.is(14, "least(1, " + marks + ", 0)", x.least(1, marks, 0), many);
        Due.is(14, "least(1, " + marks + ", 1)", x.least(1, marks, 1), paid);
        Due.is(14, "least(1, " + marks + ", 2)", x.least(1, marks, 2), nails);
    }

    private static void leastNone(BackwardYears x, int marks) {
        leastIs(x, marks, -4, -4, -4);
    }

    /** "LEAST NAILS for a set of MARKS": for none of them, of an empty LIST, for those that are so, all. */
    private static void leastOfNone() {
        BackwardYears x = Due.town("d0 c0 0;ma;mj;");
        Due.list(x, 1);
        leastIs(x, 0, 0, 0, 0);
        leastIs(x, 513, 0, 0, 0);
        leastNone(x, 2);
        leastNone(x, 515);
        leastNone(x, 1023);
        Due.list(x, 1, 0, 0);
        leastIs(x, 0, 0, 0, 0);
        leastIs(x, 513, 0, 0, 0);
        leastIs(x, 517, 1, 10, 1);
        Due.read(x, "mb;mc;md;me;mf;mg;mh;mi;");
        leastIs(x, 1023, 0, 0, 0);
    }

    /** All eight places, each of them alone, and what is paid for all. */
    private static void leastOfEight() {
        BackwardYears x = Due.town(CHAIN + "n1 +1;c36;");
        Due.list(x, 1, 0, 1, 2, 3, 4, 5, 6, 7);
        int paid = 0;
        for (int place = 0; place < 8; place++) {
            paid += 1 + place;
            leastIs(x, 1 << place, place + 1, paid, (2 << place) - 1);
        }
        leastIs(x, 255, 8, 36, 255);
        leastNone(x, 256);
        // One coin less than all eight cost.
        x.set(2, 35);
        leastNone(x, 128);
        leastIs(x, 64, 7, 28, 127);
        x.set(0, 2);
        for (int place = 0; place < 8; place++) {
            leastIs(x, 1 << place, 1, place + 1, 1 << place);
        }
    }

    /** "the one of the fewest": none ahead of one, one that is dear ahead of two that are cheap. */
    private static void leastFewest() {
        BackwardYears x = Due.town("d0 a0 0;d0 b0 0;d0ab c0 0;d0a d0 0;d0b e0 0;d4ab f0 5;n10 -3;l1;");
        Due.list(x, 1, 0, 1, 2, 3, 4);
        leastIs(x, 3, 1, 4, 4);
        Due.list(x, 1, 0, 1, 3, 4);
        leastIs(x, 3, 2, 5, 12);
        Due.list(x, 1, 0, 1, 2, 3, 4, 5);
        leastIs(x, 3, 0, 0, 0);
        leastIs(x, 7, 1, 4, 4);
    }

    /** "then of the least cost paid": the first, the last, one between them. */
    private static void leastCost() {
        BackwardYears x = Due.town("d0 a0 0;d0a b0 0;d0a c2 0;l1;n10 +1;");
        Due.list(x, 1, 0, 1, 1, 1, 1, 1, 1, 1);
        leastIs(x, 1, 1, 10, 1);
        Due.read(x, "n10 -1;");
        leastIs(x, 1, 1, 3, 128);
        Due.read(x, "n7 -1;");
        leastIs(x, 1, 1, 0, 128);
        // A nail at the second place costs nothing, at the first 9.
        Due.read(x, "n9 -9;");
        Due.list(x, 1, 0, 1);
        leastIs(x, 1, 1, 0, 2);
    }

    /** "then the least bits". */
    private static void leastBits() {
        BackwardYears x = Due.town("d0 a0 0;d0a b0 0;l1;n10 +0;");
        Due.list(x, 1, 0, 1, 1, 1, 1, 1, 1, 1);
        leastIs(x, 1, 1, 10, 1);
        Due.read(x, "n5 -1;");
        leastIs(x, 1, 1, 0, 32);
        Due.read(x, "n0 +0;");
        leastIs(x, 1, 1, 0, 1);
        // Of two places out of three: 3 ahead of 5 and 6, whatever the order in which they are tried.
        x = Due.town("d0 a0 0;d0 b0 0;d0a c0 0;d0b d0 0;l1;n4 +0;");
        Due.list(x, 1, 0, 1, 2, 3);
        leastIs(x, 3, 2, 8, 3);
    }

    /** "-4": without the coins for what is nailed, or for what is done behind it. */
    private static void leastCoins() {
        BackwardYears x = Due.town("d0 a0 0;d2 b95 0;c105;");
        Due.list(x, 1, 0, 1);
        leastIs(x, 2, 1, 10, 2);
        leastNone(x, 3);
        x.set(2, 104);
        leastNone(x, 2);
        leastIs(x, 1, 1, 10, 1);
        x.set(2, 115);
        leastIs(x, 3, 2, 20, 3);
        x.set(2, 114);
        leastNone(x, 3);
        x.set(2, 9);
        leastNone(x, 1);
        x.set(2, 10);
        leastIs(x, 1, 1, 10, 1);
        Due.is(14, "in mind alone", x.state(0), 10);
        Due.is(14, "in mind alone", x.state(1), 0);
    }

    private static void leastArguments() {
        BackwardYears x = Due.town("d0 a0 0;");
        Due.list(x, 1, 0);
        for (int n : new int[] {LEAST, -1, 1024, MOST}) {
            Due.is(14, "least(1, " + n + ", 0)", x.least(1, n, 0), -1);
            Due.is(15, "free(1, " + n + ", 0)", x.free(1, n, 0), -1);
        }
        for (int n : new int[] {LEAST, -1, 3, MOST}) {
            Due.is(14, "least(1, 0, " + n + ")", x.least(1, 0, n), -1);
        }
        Due.is(14, "no such argument ahead of none", x.least(1, 2, 3), -1);
        Due.list(x, 1, 0, 0, 0, 0, 0, 0, 0, 0, 0);
        Due.is(14, "nine ahead of none", x.least(1, 2, 0), -13);
        Due.list(x, 1, 1);
        Due.is(14, "no deed ahead of none", x.least(1, 2, 0), -13);
    }

    // ---- promise 15

    private static void freeIs(BackwardYears x, int marks, int digits, int nails) {
        Due.is(15, "free(1, " + marks + ", 0)", x.free(1, marks, 0), digits);
        Due.is(15, "free(1, " + marks + ", 1)", x.free(1, marks, 1), nails);
    }

    /** "of all orders of a LIST (5 places at most)"; "-13 (more than 5)": each size from none to nine. */
    private static void freeBySize() {
        BackwardYears x = Due.town("d0 a0 0;mb;");
        int[] digits = {0, 0, 10, 210, 3210, 43210, -13, -13, -13, -13};
        for (int size = 0; size < digits.length; size++) {
            x.row(1, Due.BYTES, size);
            int refused = size > 5 ? -13 : 0;
            freeIs(x, 0, digits[size], refused);
            freeIs(x, 2, digits[size], refused);
            freeIs(x, 1, size == 0 ? -4 : digits[size], size == 0 ? -4 : size > 5 ? -13 : 1);
            freeIs(x, 4, size > 5 ? -13 : -4, size > 5 ? -13 : -4);
        }
        Due.is(15, "in mind alone", x.marks(), 2);
        Due.is(15, "in mind alone", x.state(1), 0);
    }

    /** "as digits, the first the lowest to the base 10": the first order, the last one and some between. */
    private static void freeOrders() {
        BackwardYears x = Due.town(KEPT_CHAIN);
        int[][] lists = {{0, 1, 2, 3, 4}, {4, 3, 2, 1, 0}, {1, 0, 2, 3, 4}, {4, 0, 1, 2, 3}, {1, 2, 3, 4, 0},
            {0, 1, 2, 4, 3}, {2, 4, 1, 3, 0}};
        int[] digits = {43210, 1234, 43201, 4321, 32104, 34210, 13024};
        for (int i = 0; i < lists.length; i++) {
            Due.list(x, 1, lists[i]);
            freeIs(x, 16, digits[i], 0);
            freeIs(x, 31, digits[i], 0);
        }
        // The list itself stays as it is.
        Due.is(15, "the list's first", x.element(1, 0), 2);
        Due.is(15, "the list's last", x.element(1, 4), 0);
        Due.list(x, 1, 1, 0);
        freeIs(x, 2, 1, 0);
        freeIs(x, 1, 10, 0);
        Due.list(x, 1, 2, 1, 0);
        freeIs(x, 4, 12, 0);
    }

    /** "that with the fewest LEAST NAILS": one that needs none, though it is a late one; then it alone counts. */
    private static void freeFewest() {
        BackwardYears x = Due.town("d0 a0 0;d7 a0 5;");
        Due.list(x, 1, 0, 0, 0, 0, 1);
        freeIs(x, 1, 32104, 0);
        // One that needs none first of all; those behind it need more.
        Due.list(x, 1, 1, 0, 0, 0, 0);
        freeIs(x, 1, 43210, 0);
        Due.list(x, 1, 1, 0);
        freeIs(x, 1, 10, 0);
        // Without the one that KEEPS one is to be nailed.
        Due.list(x, 1, 0, 0, 0, 0, 0);
        freeIs(x, 1, 43210, 1);
        // Not the cheapest: a nail at the second place would cost 5 less.
        x = Due.town("d0 a0 0;d0 b0 0;n10 -5;");
        Due.list(x, 1, 0, 1);
        freeIs(x, 1, 10, 1);
        freeIs(x, 3, 10, 2);
        // Coins for a nail at the first place alone.
        x = Due.town("d0 a0 0;d0 b0 0;n0 +9;c8;");
        Due.list(x, 1, 0, 0, 0, 0, 1);
        freeIs(x, 2, 32104, 1);
        freeIs(x, 3, -4, -4);
        // All five nailed.
        x = Due.town(CHAIN);
        Due.list(x, 1, 4, 3, 2, 1, 0);
        freeIs(x, 16, 1234, 5);
        freeIs(x, 1, 43210, 1);
    }

    /** "of several the first by places". */
    private static void freeFirst() {
        BackwardYears x = Due.town("d4 a0 5;d4 b0 5;d4a c0 5;");
        Due.list(x, 1, 2, 0, 1);
        freeIs(x, 7, 201, 0);
        Due.list(x, 1, 1, 2, 0);
        freeIs(x, 7, 120, 0);
        Due.list(x, 1, 2, 1, 0);
        freeIs(x, 7, 21, 0);
        // By places, not by deeds: the same deed twice.
        Due.list(x, 1, 2, 2, 0);
        freeIs(x, 5, 120, 0);
    }

    private static void freeArguments() {
        BackwardYears x = Due.town("d0 a0 0;");
        Due.list(x, 1, 0);
        for (int n : new int[] {LEAST, -1, 2, MOST}) {
            Due.is(15, "free(1, 0, " + n + ")", x.free(1, 0, n), -1);
        }
        Due.is(15, "all marks", x.free(1, 1023, 0), -4);
        Due.list(x, 1, 0, 0, 0, 0, 0, 1);
        Due.is(15, "no deed among six", x.free(1, 0, 0), -13);
        Due.is(15, "six with no such argument", x.free(1, 0, 2), -1);
        Due.is(15, "six with no such marks", x.free(1, 1024, 0), -1);
    }

    // ---- promise 16

    private static void planIs(BackwardYears x, int n, int sum, int first) {
        Due.is(16, "plan(" + n + ", 2, 0)", x.plan(n, 2, 0), sum);
        Due.is(16, "plan(" + n + ", 2, 1)", x.plan(n, 2, 1), first);
    }

    private static void worths(BackwardYears x, int... values) {
        x.row(2, Due.SHORTS, 10);
        for (int i = 0; i < values.length; i++) {
            x.put(2, i, values[i]);
        }
    }

    /** "99 none": without DEEDS the sum of what is so, from the greatest to the least. */
    private static void planWithoutDeeds() {
        BackwardYears x = Due.town(ALL_MARKS);
        for (int n = 1; n <= 2; n++) {
            worths(x, 999, 999, 999, 999, 999, 999, 999, 999, 999, 999);
            planIs(x, n, 9990, 99);
            worths(x, -999, -999, -999, -999, -999, -999, -999, -999, -999, -999);
            planIs(x, n, -9990, 99);
            worths(x, 1, -2, 4, -8, 16, -32, 64, -128, 256, -512);
            planIs(x, n, -341, 99);
            worths(x);
            planIs(x, n, 0, 99);
        }
        BackwardYears none = new BackwardYears();
        worths(none, -999, 999);
        planIs(none, 1, 0, 99);
        planIs(none, 2, 0, 99);
    }

    /** "LISTS of 0, 1, 2 unlike DEEDS with all sets of NAILS": the last two of all eight, both nailed. */
    private static void planOfTwoDeeds() {
        BackwardYears x = Due.town("d0 a0 0;d0 b0 0;d0 c0 0;d0 d0 0;d0 e0 0;d0 f0 0;d0j i0 0;d0 j0 0;");
        worths(x, 0, 0, 0, 0, 0, 0, 0, 0, 5, 0);
        planIs(x, 1, 5, 376);
        worths(x, 0, 0, 0, 0, 0, 0, 0, 0, 0, 5);
        planIs(x, 1, 5, 179);
        worths(x, 1, 0, 0, 0, 0, 2, 0, 0, 0, 0);
        planIs(x, 1, 3, 305);
        // All are worth something: two of them, then four.
        worths(x, 1, 1, 1, 1, 1, 1, 1, 1, 1, 1);
        planIs(x, 1, 2, 301);
        planIs(x, 2, 4, 301);
        // Nailed the first alone, the second alone, none.
        x = Due.town("d0 a0 0;d4a b0 5;d0 c0 0;");
        worths(x, 1, 2, -4);
        planIs(x, 1, 3, 101);
        x = Due.town("d4 a0 5;d0a b0 0;");
        worths(x, 1, 2);
        planIs(x, 1, 3, 201);
        x = Due.town("d4 a0 5;d4a b0 5;");
        worths(x, 1, 2);
        planIs(x, 1, 3, 1);
        // "9 in place of each that there isn't": one DEED, nailed, and not.
        worths(x, 1, -2);
        planIs(x, 1, 1, 9);
        x = Due.town("d0 a0 0;");
        worths(x, 1);
        planIs(x, 1, 1, 109);
        // The first of all DEEDS behind another one.
        x = Due.town("d0b a0 0;d0 b0 0;d0 c0 0;");
        worths(x, 2, 1);
        planIs(x, 1, 3, 310);
        // What is more in MARKS (as bits) is less in COINS.
        x = Due.town("d2 a1 0;d2 b2 0;d2 c4 0;n0 +0;");
        worths(x, 1, 5, 2);
        planIs(x, 1, 7, 312);
        planIs(x, 2, 8, 109);
        // Nothing is left, neither MARKS nor COINS.
        x = Due.town("d6 a99 0;ma;n0 +0;c99;");
        worths(x, -5);
        planIs(x, 1, 0, 109);
        planIs(x, 2, 0, 99);
    }

    /** "unlike": no DEED twice. The LENT one brings 9 a time; twice in a year it would bring enough for b. */
    private static void planOfUnlikeDeeds() {
        BackwardYears x = Due.town("d3 a0 9;d2 b99 0;n0 +0;c89;");
        worths(x, 0, 5);
        planIs(x, 2, 0, 99);
        x.set(2, 90);
        planIs(x, 2, 5, 9);
        x.set(2, 99);
        planIs(x, 2, 5, 99);
        planIs(x, 1, 5, 119);
        x.set(2, 98);
        planIs(x, 1, 0, 99);
        // Two LENT ones that are told by their numbers alone are unlike.
        x = Due.town("d3 a0 9;d2 b99 0;d3 a0 9;n0 +0;c81;");
        worths(x, 0, 5);
        planIs(x, 2, 5, 2);
        x.set(2, 80);
        planIs(x, 2, 0, 99);
    }

    /** "of several the first: by how many DEEDS its first LIST has, then these by numbers, then NAILS". */
    private static void planOfSeveral() {
        // Fewer DEEDS: none, though one that is so already could be done, too.
        BackwardYears x = Due.town("d0 a0 0;d4 b0 5;ma;");
        worths(x, 7);
        planIs(x, 1, 7, 99);
        // One DEED of a high number ahead of two of low ones.
        x = Due.town("d0 a0 0;d0 b0 0;d7 a0 1;");
        worths(x, 1, 1);
        planIs(x, 1, 2, 129);
        // By numbers ahead of NAILS: the first nailed, not the second that KEEPS.
        x = Due.town("d0 a0 0;d4 a0 5;");
        worths(x, 1);
        planIs(x, 1, 1, 109);
        // Of two lists of the same DEEDS by the first one's number; by the second one's number.
        x = Due.town("d0 a0 0;d0 b0 0;");
        worths(x, 1, 1);
        planIs(x, 1, 2, 301);
        x = Due.town("d0 a0 0;d0 b0 0;d0 b0 0;");
        worths(x, 1, 1);
        planIs(x, 1, 2, 301);
        // Fewest bits of NAILS: the first or the second of two that hold each other by LAW 1.
        x = Due.town("d0 a0 0;d0a b0 0;l1;");
        worths(x, 1, 0);
        planIs(x, 1, 1, 109);
        worths(x, 1, 1);
        planIs(x, 1, 2, 201);
        x = Due.town("d4 a0 5;");
        worths(x, 1);
        planIs(x, 1, 1, 9);
    }

    /** The DEEDS that there are when it is asked: more than before, then less. */
    private static void planAgain() {
        BackwardYears x = Due.town("d0 a0 0;d0 b0 0;");
        x.image();
        worths(x, 1, 1);
        planIs(x, 1, 2, 301);
        Due.read(x, "d7 a0 1;d0 c0 0;d0 d0 0;d0 e0 0;d0 f0 0;d7 a0 9;");
        planIs(x, 1, 2, 129);
        worths(x, 0, 0, 0, 0, 1, 1, 0, 0, 0, 2);
        planIs(x, 1, 3, 157);
        planIs(x, 2, 4, 159);
        worths(x, 1, 1);
        planIs(x, 1, 2, 129);
        x.restore();
        planIs(x, 1, 2, 301);
    }

    /** "for n PAIRS (1, 2)": what the first leaves the second begins with; "at the end". */
    private static void planOfTwoPairs() {
        BackwardYears x = Due.town(CHAIN + "n10 +0;c40;");
        worths(x, 0, 0, 0, 5);
        planIs(x, 1, 0, 99);
        planIs(x, 2, 5, 301);
        x.set(2, 39);
        planIs(x, 2, 0, 99);
        worths(x, 0, 0, 5, 9);
        planIs(x, 2, 5, 109);
        // The second alone can do it: then the first is none.
        worths(x, 0, 5);
        planIs(x, 2, 5, 99);
        // The first brings what is worth less than nothing, to be had on the way.
        worths(x, -1, -1, 5);
        x.set(2, 100);
        planIs(x, 2, 3, 109);
        Due.is(16, "in mind alone", x.marks(), 0);
        Due.is(16, "in mind alone", x.state(0), 100);
        Due.is(16, "in mind alone", x.state(1), 0);
        // What the first leaves can be made not so by the second.
        x = Due.town("d4 a0 5;d4a b0 5;d6b a0 0;d4b c0 5;l2;");
        worths(x, -9, 5, 5);
        planIs(x, 1, 0, 99);
        planIs(x, 2, 10, 1);
        // The year's coins that are more behind it.
        x = Due.town("d3 a1 9;d2 b9 0;n0 +0;c1;");
        worths(x, 0, 1);
        planIs(x, 1, 0, 99);
        planIs(x, 2, 1, 9);
    }

    /** "a ROW of 10, each -999 .. 999": of each SORT, each place, the last number taken and the first that isn't. */
    private static void planWorths() {
        BackwardYears x = new BackwardYears();
        for (int sort = Due.BYTES; sort <= Due.INTS; sort++) {
            x.row(2, sort, 10);
            Due.is(16, "a row of sort " + sort, x.plan(1, 2, 0), 0);
            for (int size : new int[] {0, 1, 9, 11, 100}) {
                x.row(2, sort, size);
                Due.is(16, "worths of " + size, x.plan(1, 2, 0), FAR - 13);
            }
        }
        x.row(2, Due.BYTES, 10);
        x.put(2, 0, -128);
        x.put(2, 9, 127);
        Due.is(16, "the least and most of bytes", x.plan(2, 2, 0), 0);
        for (int sort = Due.SHORTS; sort <= Due.INTS; sort++) {
            x.row(2, sort, 10);
            for (int place = 0; place < 10; place++) {
                for (int worth : new int[] {1000, -1000, 32767, -32768}) {
                    x.put(2, place, worth);
                    Due.is(16, worth + " at place " + place, x.plan(1, 2, 0), FAR - 13);
                }
                x.put(2, place, -999);
                Due.is(16, "-999 at place " + place, x.plan(1, 2, 0), 0);
                x.put(2, place, 999);
                Due.is(16, "999 at place " + place, x.plan(1, 2, 1), 99);
            }
        }
        BackwardYears y = new BackwardYears();
        y.row(2, Due.INTS, 10);
        y.put(2, 5, MOST);
        Due.is(16, "the most of ints", y.plan(1, 2, 0), FAR - 13);
        y.put(2, 5, LEAST);
        Due.is(16, "the least of ints", y.plan(1, 2, 0), FAR - 13);
        y.put(2, 5, 999);
        y.put(2, 4, -999);
        Due.is(16, "the worths stay", y.plan(1, 2, 0), 0);
        Due.is(16, "the worths stay", y.element(2, 5), 999);
    }

    /** "-1000000001, -1000000011, -1000000012 (no ROW), -1000000013", the first one told. */
    private static void planArguments() {
        BackwardYears x = Due.town("d0 a0 0;");
        worths(x);
        for (int n : new int[] {LEAST, -1, 0, 3, MOST}) {
            Due.is(16, "plan(" + n + ", 2, 0)", x.plan(n, 2, 0), FAR - 1);
            Due.is(16, "plan(" + n + ", 3, 0)", x.plan(n, 3, 0), FAR - 1);
        }
        for (int n : new int[] {LEAST, -1, 2, MOST}) {
            Due.is(16, "plan(1, 2, " + n + ")", x.plan(1, 2, n), FAR - 1);
            Due.is(16, "plan(1, 3, " + n + ")", x.plan(1, 3, n), FAR - 1);
        }
        for (int d : new int[] {LEAST, -1, 8, MOST}) {
            Due.is(16, "plan(1, " + d + ", 0)", x.plan(1, d, 0), FAR - 1);
        }
        Due.is(16, "nothing held", x.plan(1, 3, 1), FAR - 11);
        x.keep(3, 1, 0);
        Due.is(16, "a deed", x.plan(2, 3, 1), FAR - 12);
    }

    // ---- promises 17 and 18

    /** "those that are so, and again and again what DEEDS (PULLED ones not) make of what is so". */
    private static void everReached() {
        Due.is(17, "no deeds, none so", new BackwardYears().ever(), 0);
        Due.is(17, "no deeds, all so", Due.town(ALL_MARKS).ever(), 1023);
        // All eight, each on what the one behind it makes; what needs none is the last.
        BackwardYears x = Due.town("d0b a99 0;d1c b99 9;d2d c99 0;d3e d99 0;d4f e99 0;d5g f99 0;d7h g99 8;d0 h99 0;c0;");
        Due.is(17, "again and again", x.ever(), 511);
        Due.is(17, "in mind alone", x.marks(), 0);
        Due.read(x, "mj;");
        Due.is(17, "those that are so, too", x.ever(), 1023);
        x = Due.town("d0b a99 0;d1c b99 9;d2d c99 0;d3e d99 0;d4f e99 0;d5g f99 0;d7h g99 8;d0j h99 0;c0;");
        Due.is(17, "without ground for the last", x.ever(), 0);
        Due.read(x, "mh;");
        Due.is(17, "with it", x.ever(), 511);
        // One of two marks that are needed is not enough.
        x = Due.town("d0ab c0 0;ma;");
        Due.is(17, "one of two", x.ever(), 1);
        Due.read(x, "mb;");
        Due.is(17, "both", x.ever(), 7);
        // Sworn ones make both of theirs, the first and the last mark.
        Due.is(17, "sworn", Due.town("d7 a0 9;").ever(), 513);
        Due.is(17, "sworn, both the same", Due.town("d7 a0 0;").ever(), 1);
        Due.is(17, "pulled ones make nothing", Due.town("d6 a0 0;d0a b0 0;").ever(), 0);
        Due.is(17, "pulled ones take nothing", Due.town("d6 a0 0;ma;").ever(), 1);
    }

    /** "MARKS that are so now and that some PULLED one that MAY be done now would make not so". */
    private static void helpGiven() {
        Due.is(18, "no deeds, all so", Due.town(ALL_MARKS).help(), 0);
        BackwardYears x = Due.town("d6 j99 9;d6a i98 9;d6 h0 9;d6 h99 9;d0 a0 0;d7 b0 2;d3 a0 9;c99;");
        Due.is(18, "none so", x.help(), 0);
        Due.read(x, "ma;mb;mc;mg;mh;mi;mj;");
        Due.is(18, "three pulled", x.help(), 1 << 7 | 1 << 8 | 1 << 9);
        x.set(2, 98);
        Due.is(18, "not with one coin less", x.help(), 1 << 7 | 1 << 8);
        x.set(2, 97);
        Due.is(18, "nor with one less again", x.help(), 1 << 7);
        x = Due.town("d6a a0 0;");
        Due.is(18, "it isn't so", x.help(), 0);
        Due.read(x, "ma;");
        Due.is(18, "it needs what it pulls", x.help(), 1);
        x = Due.town("d6 a0 0;d6 b0 0;d6 c0 0;d6 d0 0;d6 e0 0;d6 f0 0;d6 g0 0;d6 j0 0;c0;");
        Due.read(x, ALL_MARKS);
        Due.is(18, "all eight", x.help(), 127 | 512);
        Due.is(18, "in mind alone", x.marks(), 1023);
    }

    // ---- promise 19

    /** LISTS of none to eight with each other: all that KEEP stand, of the one's and of the other's. */
    private static void twoSizes() {
        for (int size = 0; size <= 9; size++) {
            BackwardYears x = Due.town("d4 a0 5;d0 b0 0;n0 +0;");
            x.row(1, Due.BYTES, size);
            for (int other = 0; other <= 9; other++) {
                x.row(2, Due.BYTES, other);
                boolean refused = size > 8 || other > 8;
                Due.is(19, size + " and " + other, x.two(1, 2, 0, 0, 0), refused ? -13 : size);
                Due.is(19, size + " and " + other, x.two(1, 2, 255, 255, 1), refused ? -13 : other);
            }
        }
        // Bits beyond a LIST nail nothing, of the other's neither.
        BackwardYears x = Due.town("d0 a0 0;d0 b0 0;c10;");
        Due.list(x, 1, 0);
        Due.list(x, 2, 0, 1);
        Due.is(19, "the other's first", x.two(1, 2, 254, 1, 1), 1);
        Due.is(19, "the one's none", x.two(1, 2, 254, 1, 0), 0);
        Due.is(19, "the one's", x.two(1, 2, 255, 252, 0), 1);
        Due.is(19, "the other's none", x.two(1, 2, 255, 252, 1), 0);
        Due.list(x, 2, 0, 1, 0, 1, 0, 1, 0, 1);
        Due.is(19, "the other's none, which goes on", x.two(1, 2, 254, 0, 1), 0);
        Due.is(19, "the one's none, which goes on", x.two(2, 1, 0, 254, 0), 0);
        Due.list(x, 2, 0, 1);
        Due.is(19, "a shelf with itself", x.two(2, 2, 1, 0, 0), 1);
        Due.is(19, "a shelf with itself", x.two(2, 2, 1, 0, 1), 0);
        for (int n : new int[] {LEAST, -1, 256, MOST}) {
            Due.is(19, "the one's nails " + n, x.two(1, 2, n, 0, 0), -1);
            Due.is(19, "the other's nails " + n, x.two(1, 2, 0, n, 0), -1);
        }
        for (int n : new int[] {LEAST, -1, 2, MOST}) {
            Due.is(19, "what " + n, x.two(1, 2, 0, 0, n), -1);
        }
    }

    /** Sixteen places: what is changed at the last two is undone first, and falls and stays are asked of them, too. */
    private static void twoOfSixteen() {
        BackwardYears x = Due.town("d4 a0 5;d0 b0 0;d0b c0 0;d6 a0 0;d0a d0 0;n0 +0;");
        // b at the one's last place; the other's last one needs it, and falls.
        Due.list(x, 1, 0, 0, 0, 0, 0, 0, 0, 1);
        Due.list(x, 2, 0, 0, 0, 0, 0, 0, 0, 2);
        Due.is(19, "c falls", x.two(1, 2, 0, 128, 1), 7);
        Due.is(19, "c stands on b", x.two(1, 2, 128, 128, 1), 8);
        x.set(0, 1);
        Due.is(19, "b stays for c", x.two(1, 2, 0, 128, 0), 8);
        Due.is(19, "b doesn't stay", x.two(1, 2, 0, 0, 0), 7);
        x.set(0, 0);
        // a is pulled at the last place of all, at the last but one; undone it is so again, and the first ones stand.
        Due.list(x, 1, 0, 4, 4, 4, 4, 4, 4, 4);
        Due.list(x, 2, 0, 0, 0, 0, 0, 0, 0, 3);
        Due.is(19, "the other's last pulled, undone", x.two(1, 2, 254, 0, 0), 8);
        Due.is(19, "nailed", x.two(1, 2, 254, 128, 0), 8);
        Due.list(x, 1, 0, 4, 4, 4, 4, 4, 1, 3);
        Due.list(x, 2, 0, 0, 0, 0, 0, 0, 0, 1);
        Due.is(19, "the one's last pulled, undone, and b behind it", x.two(1, 2, 62, 0, 0), 1);
        Due.is(19, "b nailed", x.two(1, 2, 126, 128, 0), 7);
        Due.is(19, "pulled for good: what needs a falls, as the other's b is undone", x.two(1, 2, 255, 0, 0), 3);
    }

    /** What nailing costs tells the place: i and its own number in turn, "what is left of the longer behind". */
    private static void twoInTurn() {
        int[][] sizes = {{8, 8}, {8, 1}, {1, 8}, {8, 0}, {0, 8}, {3, 5}, {5, 3}};
        for (int[] size : sizes) {
            BackwardYears x = Due.town("d0 a0 0;n1 +9;");
            x.row(1, Due.BYTES, size[0]);
            x.row(2, Due.BYTES, size[1]);
            for (int i = 0; i < 8; i++) {
                if (i < size[0]) {
                    onlyWith(x, i + Math.min(i, size[1]), 1 << i, 0);
                }
                if (i < size[1]) {
                    onlyWith(x, i + Math.min(i + 1, size[0]), 0, 1 << i);
                }
            }
        }
        // The one's DEED is ahead of the other's: a for b, not b for a.
        BackwardYears x = Due.town("d0 a0 0;d0a b0 0;n0 +0;");
        Due.list(x, 1, 0);
        Due.list(x, 2, 1);
        Due.is(19, "the one's a ahead", x.two(1, 2, 1, 1, 1), 1);
        Due.is(19, "the other's a behind", x.two(2, 1, 1, 1, 0), 0);
        Due.is(19, "the other's a behind", x.two(2, 1, 1, 1, 1), 1);
        Due.is(19, "in mind alone", x.marks(), 0);
    }

    /** Nailed with the coins that it costs at a place of both LISTS, not with one less. */
    private static void onlyWith(BackwardYears x, int place, int nails, int others) {
        int mine = nails != 0 ? 0 : 1;
        x.set(2, 1 + 9 * place);
        Due.is(19, "coins for place " + place, x.two(1, 2, nails, others, mine), 1);
        Due.is(19, "not the other's", x.two(1, 2, nails, others, 1 - mine), 0);
        x.set(2, 9 * place);
        Due.is(19, "a coin less for place " + place, x.two(1, 2, nails, others, mine), 0);
    }

    // ---- promises 20 and 21

    /** "the place 0 .. 7 at which nailing costs least, of several the least": each place. */
    private static void months() {
        for (int place = 0; place < 8; place++) {
            BackwardYears x = Due.town("n" + 9 * place + " -9;");
            Due.is(20, "the first that costs nothing", x.month(), place);
            if (place > 0) {
                x.set(1, 9 * place - 8);
                Due.is(20, "also where it would be less than nothing", x.month(), place);
                x.set(1, 9 * place + 1);
                Due.is(20, "not where it still costs one", x.month(), Math.min(7, place + 1));
            }
        }
        Due.is(20, "all cost the same", Due.town("n99 +0;").month(), 0);
        Due.is(20, "all cost nothing", Due.town("n0 +0;").month(), 0);
        Due.is(20, "all but the first cost", Due.town("n0 +1;").month(), 0);
        Due.is(20, "the most, rising", Due.town("n99 +9;").month(), 0);
        Due.is(20, "the most, falling", Due.town("n99 -9;").month(), 7);
        Due.is(20, "the most, falling by one", Due.town("n99 -1;").month(), 7);
    }

    /** "What nailing at a place 0 .. 7 costs. -1." */
    private static void nailPlaces() {
        int[][] rises = {{99, 9}, {99, -9}, {0, 9}, {0, -9}, {0, 0}, {10, 0}, {62, -9}, {63, -9}, {64, -9}, {7, -1}};
        for (int[] rise : rises) {
            BackwardYears x = Due.town("n" + rise[0] + " " + (rise[1] < 0 ? "-" : "+") + Math.abs(rise[1]) + ";");
            for (int place = 0; place < 8; place++) {
                int due = Math.max(0, rise[0] + place * rise[1]);
                Due.is(21, "nail(" + place + ") of " + rise[0] + ", " + rise[1], x.nail(place), due);
            }
            for (int place : new int[] {LEAST, -1, 8, MOST}) {
                Due.is(21, "nail(" + place + ")", x.nail(place), -1);
            }
        }
        Due.is(21, "the dearest", Due.town("n99 +9;").nail(7), 162);
    }

    // ---- promise 23

    private static long z;

    /** "z becomes z times 1103515245 plus 12345 (an int); .. (z without its sign's bit over 65536, cut) modulo n". */
    private static int draw(int below) {
        // Without a wrap-around: what lies beyond 32 bits is left out, then the sign's bit.
        z = (z * 1103515245L + 12345L) % (1L << 32);
        return (int) (z % (1L << 31) / 65536 % below);
    }

    /** The same years as pairs that pass: what is drawn is put on a shelf. */
    private static int[] pairsBySeed(BackwardYears x, int n, int seed) {
        z = Math.floorMod((long) seed, 1L << 32);
        int undone = 0;
        for (int pair = 0; pair < n; pair++) {
            int k = 1 + draw(4);
            x.row(1, Due.BYTES, k);
            for (int i = 0; i < k; i++) {
                x.put(1, i, draw(x.count(0)));
            }
            int nails = draw(1 << k);
            undone += x.behind(1, nails, 2);
            x.pair(1, nails);
        }
        return new int[] {x.marks(), x.state(0), undone};
    }

    /** "n PAIRS (1 .. 30) from a seed z": the fewest, the most; seeds at the ends of all ints. */
    private static void seedsByPairs() {
        String[] towns = {"d0 a5 0;", "d0 a1 0;d0a b2 0;d6 a1 0;d7b c1 5;d3 d8 9;d5a e3 9;d1b f2 3;n2 +1;",
            "d0 a1 0;d0a b1 0;d4 c0 5;l1;n1 +0;c50;", "d2 a9 0;d6 b0 0;d4c a1 6;d3 c2 5;mb;l2;n3 -1;c30;",
            "d0 a0 0;d0 b0 0;d0 c0 0;d0 d0 0;d0 e0 0;d0 f0 0;d0 g0 0;d3 j9 9;n9 -9;c9990;"};
        int[] seeds = {LEAST, LEAST + 1, -1103515245, -65536, -1, 0, 1, 2, 12345, 65535, 65536, MOST - 1, MOST};
        for (String town : towns) {
            for (int seed : seeds) {
                for (int n : new int[] {1, 2, 30}) {
                    int[] due = pairsBySeed(Due.town(town), n, seed);
                    BackwardYears x = Due.town(town);
                    int marks = x.marks();
                    int coins = x.state(0);
                    for (int what = 0; what < 3; what++) {
                        Due.is(23, town + " seeded(" + n + ", " + seed + ", " + what + ")", x.seeded(n, seed, what),
                                due[what]);
                    }
                    Due.is(23, "in mind alone", x.marks(), marks);
                    Due.is(23, "in mind alone", x.state(0), coins);
                    Due.is(23, "in mind alone", x.state(1), 0);
                }
            }
        }
    }

    /** "-1; -3: no DEEDS." */
    private static void seedArguments() {
        BackwardYears x = Due.town("d0 a0 0;");
        BackwardYears none = Due.town("ma;");
        for (int n : new int[] {LEAST, -1, 0, 31, MOST}) {
            Due.is(23, "seeded(" + n + ", 0, 0)", x.seeded(n, 0, 0), -1);
            Due.is(23, "seeded(" + n + ", 0, 0) without deeds", none.seeded(n, 0, 0), -1);
        }
        for (int what : new int[] {LEAST, -1, 3, MOST}) {
            Due.is(23, "seeded(1, 0, " + what + ")", x.seeded(1, 0, what), -1);
            Due.is(23, "seeded(1, 0, " + what + ") without deeds", none.seeded(1, 0, what), -1);
        }
        for (int what = 0; what < 3; what++) {
            Due.is(23, "seeded(30, 0, " + what + ") without deeds", none.seeded(30, 0, what), -3);
        }
    }

    // ---- promise 24

    private static void judgeIs(BackwardYears x, int nails, int due) {
        Due.is(24, "judge(1, " + nails + ", 2)", x.judge(1, nails, 2), due);
    }

    /** "told behind each place of a LIST in the EVEN YEAR, then behind the ODD YEAR: the place of the first ..". */
    private static void judgedPlaces() {
        int[] told = {1, 3, 7, 15, 31, 63, 127, 255, 1};
        BackwardYears x = Due.town(CHAIN);
        Due.list(x, 1, 0, 1, 2, 3, 4, 5, 6, 7);
        Due.row(x, 2, Due.SHORTS, told);
        judgeIs(x, 1, -4);
        judgeIs(x, 0, 8);
        for (int place = 8; place >= 0; place--) {
            x.put(2, place, told[place] ^ 1 << 9);
            judgeIs(x, 1, place);
            x.put(2, place, told[place]);
            judgeIs(x, 1, -4);
        }
        // Of several the first.
        for (int place = 8; place >= 0; place--) {
            x.put(2, place, 0);
            judgeIs(x, 1, place);
        }
        // Fewer than there are: those that are told alone.
        for (int size = 0; size < 9; size++) {
            x.row(2, Due.INTS, size);
            for (int i = 0; i < size; i++) {
                x.put(2, i, told[i]);
            }
            judgeIs(x, 0, -4);
        }
        Due.is(24, "in mind alone", x.marks(), 0);
        Due.is(24, "in mind alone", x.state(1), 0);
        // Where nothing is done MARKS are as they were.
        x = Due.town("d0a b0 0;d6c c0 0;mc;");
        Due.list(x, 1, 0, 1, 0);
        Due.row(x, 2, Due.INTS, 4, 0, 0, 4);
        judgeIs(x, 0, -4);
        Due.row(x, 2, Due.INTS, 4, 0, 0, 0);
        judgeIs(x, 7, -4);
        judgeIs(x, 0, 3);
    }

    /** "the least number of the SORT is skipped". */
    private static void judgedSkips() {
        int[] least = {-128, -32768, LEAST};
        BackwardYears x = Due.town("d0 a0 0;ma;");
        Due.list(x, 1, 0, 0);
        for (int sort = Due.BYTES; sort <= Due.INTS; sort++) {
            Due.row(x, 2, sort, least[sort], least[sort], least[sort]);
            judgeIs(x, 0, -4);
            for (int place = 0; place < 3; place++) {
                x.put(2, place, least[sort] + 1);
                judgeIs(x, 0, place);
                x.put(2, place, 0);
                judgeIs(x, 0, place);
                x.put(2, place, 1);
                judgeIs(x, 0, -4);
                x.put(2, place, least[sort]);
            }
            for (int smaller = 0; smaller < sort; smaller++) {
                x.put(2, 1, least[smaller]);
                judgeIs(x, 0, 1);
            }
        }
    }

    /** "or that is beyond these (.., beyond these, too)": up to all hundred elements. */
    private static void judgedBeyond() {
        BackwardYears x = Due.town("d0 a0 0;");
        Due.list(x, 1);
        Due.row(x, 2, Due.BYTES);
        judgeIs(x, 0, -4);
        Due.row(x, 2, Due.BYTES, 0);
        judgeIs(x, 0, -4);
        judgeIs(x, 255, -4);
        Due.row(x, 2, Due.BYTES, 1);
        judgeIs(x, 0, 0);
        Due.row(x, 2, Due.BYTES, 0, 0);
        judgeIs(x, 0, 1);
        Due.row(x, 2, Due.BYTES, 0, -128);
        judgeIs(x, 0, -4);
        Due.list(x, 1, 0, 0, 0, 0, 0, 0, 0, 0);
        x.row(2, Due.BYTES, 100);
        for (int i = 0; i < 100; i++) {
            x.put(2, i, i < 8 ? 1 : i == 8 ? 0 : -128);
        }
        judgeIs(x, 0, -4);
        x.put(2, 99, 0);
        judgeIs(x, 0, 99);
        x.put(2, 50, -127);
        judgeIs(x, 0, 50);
        x.put(2, 9, 0);
        judgeIs(x, 0, 9);
        x.put(2, 8, 1);
        judgeIs(x, 0, 8);
        judgeIs(x, 1, 9);
    }

    /** All ten MARKS as a short and as an int; a byte has no room for more than seven. */
    private static void judgedSorts() {
        BackwardYears x = Due.town(ALL_MARKS + "d0 a0 0;");
        Due.list(x, 1, 0);
        Due.row(x, 2, Due.SHORTS, 1023, 1023);
        judgeIs(x, 0, -4);
        Due.row(x, 2, Due.INTS, 1023, 1023 + 65536);
        judgeIs(x, 0, 1);
        Due.row(x, 2, Due.SHORTS, 1023, 1023 + 65536);
        judgeIs(x, 0, -4);
        Due.row(x, 2, Due.BYTES, 1023, 1023);
        judgeIs(x, 0, 0);
        x = Due.town("ma;mb;mc;md;me;mf;mg;d0 h0 0;d6 a0 0;");
        Due.list(x, 1, 0);
        Due.row(x, 2, Due.BYTES, 255, 127);
        judgeIs(x, 0, 0);
        Due.row(x, 2, Due.BYTES, -128, 127);
        judgeIs(x, 0, -4);
        for (int nails : new int[] {LEAST, -1, 256, MOST}) {
            judgeIs(x, nails, -1);
        }
    }
}
