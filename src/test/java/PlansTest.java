/** Promises 14 to 24: nails, orders, plans, what can be had, two lists, seeds, what is told. */
public final class PlansTest {
    private static final String STAIRS = "d0 a1 0;d0a b1 0;d0b c1 0;";
    private static final int FAR = -1000000000;

    public static void main(String[] args) {
        leastNails();
        freestOrders();
        bestPlans();
        planRefusals();
        everAndHelp();
        twoLists();
        monthsAndNails();
        laws();
        seeds();
        judges();
        Due.end();
    }

    private static void leastIs(BackwardYears x, int marks, int... due) {
        for (int what = 0; what < 3; what++) {
            Due.is(14, "least(1, " + marks + ", " + what + ")", x.least(1, marks, what), due[due.length == 1 ? 0 : what]);
        }
    }

    private static void leastNails() {
        BackwardYears x = Due.town(STAIRS + "n10 +3;c60;");
        Due.list(x, 1, 0, 1, 2);
        leastIs(x, 0, 0, 0, 0);
        leastIs(x, 1, 1, 10, 1);
        leastIs(x, 2, 2, 23, 3);
        leastIs(x, 4, 3, 39, 7);
        leastIs(x, 8, -4);
        x.set(0, 1);
        leastIs(x, 4, 1, 16, 4);
        x.set(0, 2);
        leastIs(x, 5, 2, 26, 5);
        Due.list(x, 1, 0, 0, 0, 0);
        x.set(0, 0);
        leastIs(x, 1, 1, 10, 1);
        // The cheapest of those as few; then the least bits.
        x = Due.town("d4 a0 0;d4 b0 0;d7 a0 1;n10 -5;c60;");
        Due.list(x, 1, 2, 2, 2);
        leastIs(x, 3, 1, 10, 1);
        Due.list(x, 1, 0, 1, 2, 2);
        leastIs(x, 3, 2, 15, 3);
        // Where what stands needs it, a mark lasts by a nail at either place: the cheaper, then the first.
        x = Due.town("d0 a0 0;d0a b0 0;n10 -5;l1;");
        Due.list(x, 1, 0, 1);
        leastIs(x, 1, 1, 5, 2);
        Due.read(x, "n10 +0;");
        leastIs(x, 1, 1, 10, 1);
        // Fewer are less than cheaper: one for 4 COINS, not two for 1 and 0.
        x = Due.town("d0 a0 0;d0 b0 0;d0ab c0 0;d0a d0 0;d0b e0 0;n10 -3;l1;");
        Due.list(x, 1, 0, 1, 2, 3, 4);
        leastIs(x, 3, 1, 4, 4);
        Due.is(14, "in mind alone", x.marks(), 0);
        Due.is(14, "marks -1", x.least(6, -1, 0), -1);
        Due.is(14, "marks 1024", x.least(1, 1024, 0), -1);
        Due.is(14, "marks 1023", x.least(1, 1023, 0), -4);
        Due.is(14, "what 3", x.least(6, 0, 3), -1);
        Due.is(14, "what -1", x.least(1, 0, -1), -1);
        BackwardYears y = x;
        Due.listRefusals(14, "least", y, d -> y.least(d, 0, 0));
    }

    private static void freestOrders() {
        BackwardYears x = Due.town(STAIRS);
        Due.list(x, 1, 2, 1, 0);
        Due.is(15, "the order that is done", x.free(1, 4, 0), 12);
        Due.is(15, "its nails", x.free(1, 4, 1), 3);
        Due.is(15, "any order", x.free(1, 1, 0), 210);
        Due.is(15, "any order", x.free(1, 1, 1), 1);
        Due.is(15, "none", x.free(1, 8, 0), -4);
        Due.is(15, "none", x.free(1, 8, 1), -4);
        x = Due.town("d4 a0 0;d7a b0 9;d4b c0 5;d0 d0 0;d6d a0 0;ma;");
        Due.list(x, 1, 3, 2, 1, 0, 4);
        Due.is(15, "five places: the sworn one ahead of the said one", x.free(1, 7, 0), 43120);
        Due.is(15, "its nails", x.free(1, 7, 1), 0);
        x = Due.town("d0 a0 0;d7 a0 5;");
        Due.list(x, 1, 0, 1);
        Due.is(15, "the one that KEEPS first", x.free(1, 1, 0), 1);
        Due.is(15, "no nail", x.free(1, 1, 1), 0);
        Due.list(x, 1);
        Due.is(15, "an empty list", x.free(1, 0, 0), 0);
        Due.is(15, "an empty list", x.free(1, 0, 1), 0);
        Due.is(15, "an empty list", x.free(1, 1, 0), -4);
        Due.list(x, 1, 0, 0, 0, 0, 0, 0);
        Due.is(15, "six places", x.free(1, 0, 0), -13);
        Due.is(15, "marks 1024", x.free(6, 1024, 0), -1);
        Due.is(15, "marks -1", x.free(1, -1, 0), -1);
        Due.is(15, "what 2", x.free(6, 0, 2), -1);
        Due.is(15, "what -1", x.free(1, 0, -1), -1);
        BackwardYears y = x;
        Due.listRefusals(15, "free", y, d -> y.free(d, 0, 0));
    }

    private static void planIs(BackwardYears x, int n, int sum, int first) {
        Due.is(16, "plan(" + n + ", 2, 0)", x.plan(n, 2, 0), sum);
        Due.is(16, "plan(" + n + ", 2, 1)", x.plan(n, 2, 1), first);
    }

    private static void bestPlans() {
        BackwardYears x = Due.town(STAIRS + "c60;");
        Due.row(x, 2, Due.SHORTS, 0, 0, 5, 0, 0, 0, 0, 0, 0, 0);
        planIs(x, 1, 0, 99);
        planIs(x, 2, 5, 109);
        Due.row(x, 2, Due.BYTES, 1, 2, 0, 0, 0, 0, 0, 0, 0, 0);
        planIs(x, 1, 3, 301);
        planIs(x, 2, 3, 99);
        Due.row(x, 2, Due.INTS, 999, -999, 0, 0, 0, 0, 0, 0, 0, 0);
        planIs(x, 1, 999, 109);
        planIs(x, 2, 999, 99);
        x = Due.town("ma;d6 a1 0;d4 b0 5;d4 c0 4;d0 b0 0;");
        Due.row(x, 2, Due.SHORTS, -7, -2, 0, 0, 0, 0, 0, 0, 0, 0);
        planIs(x, 1, 0, 109);
        Due.row(x, 2, Due.SHORTS, -7, 4, 9, 0, 0, 0, 0, 0, 0, 0);
        planIs(x, 1, 9, 302);
        planIs(x, 2, 13, 109);
        Due.row(x, 2, Due.SHORTS, 0, 4, 0, 0, 0, 0, 0, 0, 0, 0);
        planIs(x, 1, 4, 19);
        x.set(2, 0);
        Due.row(x, 2, Due.SHORTS, -7, 0, 0, 0, 0, 0, 0, 0, 0, 0);
        planIs(x, 1, -7, 99);
        planIs(x, 2, -7, 99);
        Due.is(16, "in mind alone", x.state(1), 0);
        x = Due.town("d0a b0 0;d0 a0 0;");
        Due.row(x, 2, Due.SHORTS, 0, 4, 0, 0, 0, 0, 0, 0, 0, 0);
        planIs(x, 1, 4, 310);
        Due.row(x, 2, Due.SHORTS, 1, 4, 0, 0, 0, 0, 0, 0, 0, 0);
        planIs(x, 1, 5, 310);
        Due.read(x, "d7 a0 1;");
        planIs(x, 1, 5, 129);
        Due.read(x, "mj;");
        Due.is(16, "in mind alone", x.marks(), 512);
    }

    private static void planRefusals() {
        BackwardYears x = Due.town("d0 a0 0;");
        Due.row(x, 2, Due.INTS, 0, 0, 0, 0, 0, 0, 0, 0, 0, 0);
        Due.is(16, "n 0", x.plan(0, 6, 0), FAR - 1);
        Due.is(16, "n 3", x.plan(3, 2, 0), FAR - 1);
        Due.is(16, "what 2", x.plan(1, 6, 2), FAR - 1);
        Due.is(16, "what -1", x.plan(1, 2, -1), FAR - 1);
        Due.is(16, "shelf 8", x.plan(1, 8, 0), FAR - 1);
        Due.is(16, "shelf -1", x.plan(1, -1, 0), FAR - 1);
        Due.is(16, "nothing held", x.plan(1, 6, 0), FAR - 11);
        x.keep(6, 1, 0);
        Due.is(16, "a deed held", x.plan(1, 6, 0), FAR - 12);
        Due.row(x, 6, Due.INTS, 0, 0, 0, 0, 0, 0, 0, 0, 0);
        Due.is(16, "nine worths", x.plan(1, 6, 0), FAR - 13);
        Due.row(x, 6, Due.INTS, 0, 0, 0, 0, 0, 0, 0, 0, 0, 0, 0);
        Due.is(16, "eleven worths", x.plan(1, 6, 0), FAR - 13);
        x.put(2, 9, 1000);
        Due.is(16, "a worth of 1000", x.plan(1, 2, 0), FAR - 13);
        x.put(2, 9, -1000);
        Due.is(16, "a worth of -1000", x.plan(1, 2, 0), FAR - 13);
        x.put(2, 9, 0);
        x.put(2, 0, 1000);
        Due.is(16, "a first worth of 1000", x.plan(1, 2, 0), FAR - 13);
        x.put(2, 0, 0);
        x.put(2, 9, -999);
        Due.is(16, "a worth of -999", x.plan(1, 2, 0), 0);
    }

    private static void everAndHelp() {
        BackwardYears x = Due.town("d0c d99 0;d0b c99 0;d6a e1 0;d7a b99 6;d0h i1 0;c0;");
        Due.is(17, "nothing so", x.ever(), 0);
        Due.read(x, "ma;");
        Due.is(17, "a so", x.ever(), 79);
        Due.is(17, "in mind alone", x.marks(), 1);
        Due.is(17, "pulled ones make nothing", Due.town("d6 b0 0;").ever(), 0);
        Due.read(x, "mh;");
        Due.is(17, "a, h so", x.ever(), 463);
        x = Due.town("d6 a1 0;d6a b2 0;d6c d0 0;d0 e0 0;d6 a5 0;mb;c2;");
        Due.is(18, "a isn't so", x.help(), 0);
        Due.read(x, "ma;");
        Due.is(18, "a and b", x.help(), 3);
        x.set(2, 1);
        Due.is(18, "coins for a", x.help(), 1);
        Due.read(x, "md;me;");
        Due.is(18, "d needs c", x.help(), 1);
        Due.read(x, "mc;");
        Due.is(18, "d with c", x.help(), 9);
        x.set(2, 0);
        Due.is(18, "no coins", x.help(), 8);
        Due.is(18, "in mind alone", x.marks(), 31);
    }

    private static void twoLists() {
        BackwardYears x = Due.town("d0 a1 0;d0a b1 0;d0b c1 0;n1 +1;");
        Due.list(x, 1, 0, 2);
        Due.list(x, 2, 1, 0, 0);
        // In turn: 0, 1, 2, 0, 0.
        Due.is(19, "the one's", x.two(1, 2, 3, 0, 0), 1);
        Due.is(19, "the other's", x.two(1, 2, 3, 0, 1), 0);
        Due.is(19, "the one's", x.two(1, 2, 3, 1, 0), 2);
        Due.is(19, "the other's", x.two(1, 2, 3, 1, 1), 1);
        Due.is(19, "the other's", x.two(1, 2, 0, 6, 1), 2);
        Due.is(19, "the one's", x.two(1, 2, 0, 6, 0), 0);
        Due.is(19, "the other first: 1 isn't done", x.two(2, 1, 7, 3, 0), 2);
        Due.is(19, "the other first: 0, then 2 isn't done", x.two(2, 1, 7, 3, 1), 1);
        Due.is(19, "a list with itself", x.two(1, 1, 255, 255, 0), 1);
        // Nailing at place 4 costs 5.
        x.set(2, 3 + 4);
        Due.is(19, "coins for the nail at place 4", x.two(1, 2, 0, 4, 1), 0);
        x.set(2, 5 + 5);
        Due.is(19, "coins for the nail at place 4", x.two(1, 2, 0, 4, 1), 1);
        Due.list(x, 3, 0, 0, 0, 0, 0, 0, 0, 0);
        x.set(2, 9999);
        Due.is(19, "sixteen places", x.two(3, 3, 255, 128, 0), 8);
        Due.is(19, "sixteen places", x.two(3, 3, 255, 128, 1), 1);
        Due.list(x, 4);
        Due.is(19, "an empty one", x.two(4, 3, 255, 129, 1), 2);
        // What is changed at the last places is undone as elsewhere: at 13 b is made, and 14 falls without it.
        x = Due.town("d0 a0 0;d0 b0 0;d0b c0 0;d6 b0 0;ma;n0 +0;");
        Due.list(x, 1, 0, 0, 0, 0, 0, 0, 0, 2);
        Due.list(x, 2, 0, 0, 0, 0, 0, 0, 1);
        Due.is(19, "14 falls", x.two(1, 2, 128, 0, 0), 0);
        Due.is(19, "14 stands", x.two(1, 2, 128, 64, 0), 1);
        Due.read(x, "mb;");
        Due.list(x, 1, 2, 0, 0, 0, 0, 0, 0);
        Due.list(x, 2, 0, 0, 0, 0, 0, 0, 3);
        Due.is(19, "at 13 b is brought back, and 0 stands", x.two(1, 2, 1, 0, 0), 1);
        Due.list(x, 3, 0, 0, 0, 0, 0, 0, 0, 0);
        Due.is(19, "nails of the one out of range", x.two(6, 2, 256, 0, 0), -1);
        Due.is(19, "nails of the other out of range", x.two(1, 6, 0, -1, 0), -1);
        Due.is(19, "what 2", x.two(6, 2, 0, 0, 2), -1);
        Due.is(19, "the one's list first", x.two(5, 3, 0, 0, 0), -11);
        x.keep(6, 1, 0);
        Due.is(19, "the one's list first", x.two(6, 5, 0, 0, 0), -12);
        Due.is(19, "the one's list last", x.two(3, 6, 0, 0, 0), -12);
        twoNoSuchShelves();
        BackwardYears y = x;
        Due.listRefusals(19, "two, one", y, d -> y.two(d, 1, 0, 0, 0));
        Due.listRefusals(19, "two, other", y, d -> y.two(1, d, 0, 0, 0));
    }

    /** A SHELF that isn't there is told first, whatever the other one's LIST is refused with. */
    private static void twoNoSuchShelves() {
        BackwardYears x = Due.town("d0 a1 0;");
        x.keep(2, 1, 0);
        Due.row(x, 3, Due.SHORTS, 0);
        Due.list(x, 4, 1);
        Due.list(x, 5, 0, 0, 0, 0, 0, 0, 0, 0, 0);
        for (int refused = 1; refused < 6; refused++) {
            for (int none : new int[] {Integer.MIN_VALUE, -1, 8, Integer.MAX_VALUE}) {
                Due.is(19, "no shelf of the other, one's " + refused, x.two(refused, none, 0, 0, 0), -1);
                Due.is(19, "no shelf of the one, other's " + refused, x.two(none, refused, 0, 0, 1), -1);
            }
        }
        Due.is(19, "a place that isn't there of the one, nothing of the other", x.two(4, 1, 0, 0, 0), -13);
        Due.is(19, "nothing of the one, a deed of the other", x.two(1, 2, 0, 0, 0), -11);
    }

    private static void monthsAndNails() {
        BackwardYears x = new BackwardYears();
        Due.is(20, "all cost the same", x.month(), 0);
        Due.is(21, "nail(0)", x.nail(0), 10);
        Due.is(21, "nail(7)", x.nail(7), 10);
        Due.is(21, "nail(8)", x.nail(8), -1);
        Due.is(21, "nail(-1)", x.nail(-1), -1);
        Due.read(x, "n12 +4;");
        Due.is(20, "rising", x.month(), 0);
        Due.is(21, "nail(7)", x.nail(7), 40);
        Due.read(x, "n12 -4;");
        Due.is(20, "falling to 0", x.month(), 3);
        Due.is(21, "nail(2)", x.nail(2), 4);
        Due.is(21, "nail(3)", x.nail(3), 0);
        Due.is(21, "nail(4)", x.nail(4), 0);
        Due.read(x, "n5 -9;");
        Due.is(20, "the second month", x.month(), 1);
        Due.read(x, "n99 -1;");
        Due.is(20, "falling", x.month(), 7);
        Due.is(21, "nail(7)", x.nail(7), 92);
    }

    private static void laws() {
        BackwardYears x = Due.town("d0 a10 1;d1a b8 3;d5b c20 9;d4 d0 5;l1;");
        Due.list(x, 1, 0, 1, 2, 3);
        Due.is(22, "byLaw(0, ..)", x.byLaw(0, 1, 0), 1);
        Due.is(22, "byLaw(1, ..)", x.byLaw(1, 1, 0), 3);
        Due.is(22, "byLaw(2, ..)", x.byLaw(2, 1, 0), 2);
        Due.is(22, "byLaw(0, ..) with nails", x.byLaw(0, 1, 3), 4);
        Due.is(22, "in mind alone", x.state(2), 1);
        Due.is(22, "and the law is the town's again", x.behind(1, 0, 0), 14);
        Due.is(22, "law 3", x.byLaw(3, 6, 0), -1);
        Due.is(22, "law -1", x.byLaw(-1, 1, 0), -1);
        Due.is(22, "nails 256", x.byLaw(0, 6, 256), -1);
        Due.listRefusals(22, "byLaw", x, d -> x.byLaw(0, d, 0));
    }

    private static void seededIs(BackwardYears x, int n, int z, int... due) {
        for (int what = 0; what < 3; what++) {
            Due.is(23, "seeded(" + n + ", " + z + ", " + what + ")", x.seeded(n, z, what), due[what]);
        }
    }

    private static void seeds() {
        BackwardYears x = new BackwardYears();
        Due.is(23, "out of range ahead of no deeds", x.seeded(0, 0, 0), -1);
        Due.is(23, "no deeds", x.seeded(1, 0, 0), -3);
        x = Due.town("d2 a7 0;d4 b0 0;c90;n20 +0;");
        // From 0: DEED 0 with no NAIL; then DEEDS 0, 1, the first nailed.
        seededIs(x, 1, 0, 0, 83, 1);
        seededIs(x, 2, 0, 1, 56, 2);
        // From 3: DEEDS 1, 1, 0, 0, the third nailed.
        seededIs(x, 1, 3, 1, 56, 3);
        // From -1 (the sign's bit is left out of a draw): DEEDS 1, 0, the second nailed; then 0, 0, both.
        seededIs(x, 1, -1, 1, 63, 1);
        seededIs(x, 2, -1, 1, 9, 1);
        // From 2: DEED 1, nailed.
        seededIs(x, 1, 2, 2, 70, 0);
        Due.is(23, "in mind alone", x.state(0), 90);
        Due.is(23, "in mind alone", x.state(1), 0);
        // From 18: DEEDS 0, 1, the second nailed; it falls, which is undone too.
        x = Due.town("d0 a0 0;d0a b0 0;");
        seededIs(x, 1, 18, 0, 90, 2);
        Due.is(23, "n 30", x.seeded(30, 0, 2) >= 0 ? 1 : 0, 1);
        Due.is(23, "n 31", x.seeded(31, 0, 0), -1);
        Due.is(23, "what 3", x.seeded(1, 0, 3), -1);
        Due.is(23, "what -1", x.seeded(1, 0, -1), -1);
    }

    private static void judges() {
        BackwardYears x = Due.town(STAIRS);
        Due.list(x, 1, 1, 0, 1);
        Due.row(x, 2, Due.INTS, 0, 1, 3, 1);
        Due.is(24, "all is so", x.judge(1, 2, 2), -4);
        Due.is(24, "with other nails", x.judge(1, 0, 2), 3);
        Due.row(x, 2, Due.BYTES, 0, 1);
        Due.is(24, "fewer told", x.judge(1, 2, 2), -4);
        Due.row(x, 2, Due.BYTES, 0, 1, 2, 0);
        Due.is(24, "the first that isn't so", x.judge(1, 2, 2), 2);
        Due.row(x, 2, Due.BYTES, 1, 1, 2, 0);
        Due.is(24, "the first that isn't so", x.judge(1, 2, 2), 0);
        Due.row(x, 2, Due.BYTES, 0, -128, 3, -128, -128, 0);
        Due.is(24, "skipped, and one beyond", x.judge(1, 2, 2), 5);
        Due.row(x, 2, Due.SHORTS, 0, -128, 3, 1);
        Due.is(24, "no least short", x.judge(1, 2, 2), 1);
        Due.row(x, 2, Due.SHORTS, 0, -32768, 3, 1, -32768);
        Due.is(24, "the least short", x.judge(1, 2, 2), -4);
        Due.row(x, 2, Due.INTS, 0, -32768);
        Due.is(24, "no least int", x.judge(1, 2, 2), 1);
        Due.row(x, 2, Due.INTS, Integer.MIN_VALUE, Integer.MIN_VALUE);
        Due.is(24, "the least int", x.judge(1, 2, 2), -4);
        Due.row(x, 2, Due.INTS);
        Due.is(24, "nothing told", x.judge(1, 2, 2), -4);
        Due.list(x, 3);
        Due.row(x, 2, Due.INTS, 0, 0);
        Due.is(24, "behind the odd year alone", x.judge(3, 0, 2), 1);
        // A nail in the even year costs the coins of what comes behind it.
        x = Due.town("d0 a5 0;d0 b5 0;c14;");
        Due.list(x, 1, 0, 1);
        Due.row(x, 2, Due.INTS, 1, 3, 0);
        Due.is(24, "with the coins of both", x.judge(1, 0, 2), -4);
        x.set(2, 15);
        Due.is(24, "nailed, then too few", x.judge(1, 1, 2), 1);
        Due.is(24, "nails 256", x.judge(6, 256, 2), -1);
        Due.is(24, "row's shelf 8", x.judge(6, 0, 8), -1);
        Due.is(24, "row's shelf -1", x.judge(1, 0, -1), -1);
        Due.is(24, "list ahead of row", x.judge(6, 0, 5), -11);
        Due.is(24, "no row", x.judge(1, 0, 5), -11);
        x.keep(5, 1, 0);
        Due.is(24, "a deed", x.judge(1, 0, 5), -12);
        BackwardYears y = x;
        Due.listRefusals(24, "judge", y, d -> y.judge(d, 0, 2));
    }
}
