/** Promises 9 to 13: pairs of years, what lasts and why. */
public final class YearsTest {
    /** 0 a DEED for a; 1 RAISED on a for b; 2 BUILT on b for c that KEEPS; 3 SAID for d that KEEPS. */
    private static final String CHAIN = "d0 a10 1;d1a b8 3;d5b c20 9;d4 d0 5;";

    public static void main(String[] args) {
        pairs();
        evenYears();
        nailCosts();
        fallLaw();
        stayLaw();
        plainLaw();
        falls();
        whatIsUndone();
        coinsBack();
        refusals();
        Due.end();
    }

    private static void pairs() {
        BackwardYears x = Due.town(CHAIN);
        Due.list(x, 1, 0, 1, 2, 3);
        Due.is(9, "pair(1, 3)", x.pair(1, 3), 4);
        Due.is(9, "marks", x.marks(), 15);
        Due.is(9, "coins", x.state(0), 100 - 10 - 10 - 11 - 10 - 34);
        Due.is(9, "year", x.state(1), 2);
        Due.is(9, "pair(1, 0), all undone or kept", x.pair(1, 0), 1);
        Due.is(9, "marks that were so stay", x.marks(), 15);
        Due.is(9, "coins", x.state(0), 25 - 11 + 5);
        Due.is(9, "year", x.state(1), 4);
        Due.list(x, 1);
        Due.is(9, "pair of no deeds", x.pair(1, 255), 0);
        Due.is(9, "year", x.state(1), 6);
    }

    private static void evenYears() {
        BackwardYears x = Due.town(CHAIN);
        Due.list(x, 1, 1, 0, 1, 0);
        Due.is(10, "even(1)", x.even(1), 3);
        Due.is(10, "marks", x.marks(), 3);
        Due.is(10, "coins", x.state(0), 100 - 10 - 11 - 10);
        Due.is(10, "year", x.state(1), 1);
        Due.is(10, "even(1)", x.even(1), 4);
        Due.is(10, "coins", x.state(0), 69 - 42);
        Due.is(10, "year", x.state(1), 2);
        Due.listRefusals(10, "even", x, x::even);
        Due.is(10, "year", x.state(1), 2);
    }

    private static void nailCosts() {
        BackwardYears x = Due.town("d4 a0 0;d4 b0 0;d4 c0 0;n10 +5;c26;");
        Due.list(x, 1, 0, 1, 2);
        Due.is(13, "15 and 20 are too much", x.behind(1, 7, 3), 25);
        Due.is(13, "marks", x.behind(1, 7, 0), 3);
        Due.is(13, "coins", x.behind(1, 7, 1), 1);
        Due.is(13, "undone", x.behind(1, 7, 2), 1);
        Due.is(12, "why", x.why(1, 7, 2), 1);
        x.set(2, 25);
        Due.is(13, "10 and 15 are not", x.behind(1, 7, 3), 25);
        x.set(2, 24);
        Due.is(13, "without as many coins", x.behind(1, 7, 3), 10);
        Due.is(13, "a nail beyond the list", x.behind(1, 248, 3), 0);
        x = Due.town("d0 a0 0;n5 -9;c3;");
        Due.list(x, 1, 0, 0);
        Due.is(13, "a cost below 0 is none", x.behind(1, 2, 3), 0);
        Due.is(12, "and it is nailed", x.why(1, 2, 1), 2);
        x = Due.town("d0b a1 0;d0 a1 0;");
        Due.list(x, 1, 0, 1);
        Due.is(13, "what is not done is not nailed", x.behind(1, 1, 3), 0);
        Due.is(12, "not done", x.why(1, 1, 0), 0);
        x = Due.town("d4 a0 9;");
        Due.list(x, 1, 0);
        Due.is(13, "to nail what KEEPS costs too", x.behind(1, 1, 3), 10);
        Due.is(12, "nailed", x.why(1, 1, 0), 2);
        Due.is(12, "it KEEPS", x.why(1, 0, 0), 3);
        x = Due.town("d0 a10 0;c19;");
        Due.list(x, 1, 0, 0);
        Due.is(13, "nailed at once: the coins of the deed are gone", x.behind(1, 1, 3), 0);
    }

    private static void fates(BackwardYears x, int nails, int... due) {
        for (int place = 0; place < due.length; place++) {
            Due.is(12, "why(1, " + nails + ", " + place + ")", x.why(1, nails, place), due[place]);
        }
    }

    private static void fallLaw() {
        BackwardYears x = Due.town(CHAIN);
        Due.list(x, 1, 0, 1, 2, 3);
        fates(x, 0, 1, 1, 5, 3);
        fates(x, 1, 2, 1, 5, 3);
        fates(x, 2, 1, 5, 5, 3);
        fates(x, 3, 2, 2, 3, 3);
        fates(x, 4, 1, 1, 5, 3);
        Due.is(11, "lasts(1, 3, 2)", x.lasts(1, 3, 2), 1);
        Due.is(11, "lasts(1, 2, 2)", x.lasts(1, 2, 2), 0);
        Due.is(11, "lasts(1, 2, 3)", x.lasts(1, 2, 3), 1);
        Due.is(13, "undone or fell", x.behind(1, 0, 2), 3);
        Due.is(13, "marks", x.behind(1, 0, 0), 8);
        Due.is(13, "coins", x.behind(1, 0, 1), 100 - 10 - 11 - 34 + 10 + 5 + 17);
        Due.is(9, "in mind alone", x.marks(), 0);
        Due.is(9, "in mind alone", x.state(0), 100);
        Due.is(9, "in mind alone", x.state(1), 0);
    }

    private static void stayLaw() {
        BackwardYears x = Due.town(CHAIN + "l1;");
        Due.list(x, 1, 0, 1, 2, 3);
        fates(x, 0, 1, 4, 3, 3);
        fates(x, 2, 4, 2, 3, 3);
        fates(x, 8, 1, 4, 3, 2);
        Due.is(13, "marks", x.behind(1, 0, 0), 14);
        Due.is(13, "undone", x.behind(1, 0, 2), 1);
        Due.is(9, "stands", x.pair(1, 0), 3);
        Due.is(9, "marks", x.marks(), 14);
        x = Due.town("ma;d0 a0 0;d4a b0 5;l1;");
        Due.list(x, 1, 0, 1);
        fates(x, 0, 1, 3);
        x = Due.town("d0 a0 0;d4a b0 5;l1;");
        Due.list(x, 1, 1, 0);
        fates(x, 0, 0, 1);
        Due.list(x, 1, 0, 1, 0);
        fates(x, 0, 4, 3, 1);
        x = Due.town("ma;d6 a0 0;d4 b0 5;l1;");
        Due.list(x, 1, 0, 1);
        fates(x, 0, 1, 3);
        x = Due.town("ma;d4a b0 5;d6 a0 0;l1;");
        Due.list(x, 1, 0, 1);
        fates(x, 0, 3, 1);
        x = Due.town("d0 a0 0;d4a b0 4;d4b c0 4;l1;");
        Due.list(x, 1, 0, 1, 2);
        fates(x, 0, 1, 1, 1);
        fates(x, 4, 1, 4, 2);
    }

    private static void plainLaw() {
        BackwardYears x = Due.town(CHAIN + "l2;");
        Due.list(x, 1, 0, 1, 2, 3);
        fates(x, 0, 1, 1, 3, 3);
        fates(x, 2, 1, 2, 3, 3);
        Due.is(13, "marks", x.behind(1, 0, 0), 12);
        Due.is(9, "stands", x.pair(1, 0), 2);
    }

    private static void falls() {
        // 0 makes a, undone; 1 is nailed, needs a, makes b; 2 is nailed, needs b, makes a again: nothing changed.
        BackwardYears x = Due.town("d0 a1 0;d0a b1 0;d0b a1 0;");
        Due.list(x, 1, 0, 1, 2);
        fates(x, 6, 1, 5, 5);
        Due.is(13, "marks", x.behind(1, 6, 0), 0);
        // Fallen from the last to the first: 2 is asked while b is still so, and falls a round later.
        Due.list(x, 1, 0, 1, 2, 0);
        fates(x, 6, 1, 5, 5, 1);
        // None falls where nothing is undone, though a mark that one needs isn't so.
        x = Due.town("ma;d0a b0 0;d6 a0 0;n0 +0;");
        Due.list(x, 1, 0, 1);
        fates(x, 3, 2, 2);
        Due.is(13, "marks", x.behind(1, 3, 0), 2);
        // Behind the third, undone, the first one falls, though it is ahead: a isn't so.
        x = Due.town("ma;d0a b0 0;d6 a0 0;d0 c0 0;n0 +0;");
        Due.list(x, 1, 0, 1, 2);
        fates(x, 3, 5, 2, 1);
        fates(x, 1, 5, 1, 1);
        // The second, pulled and undone, brings a back; nothing else was undone ahead of that.
        Due.list(x, 1, 0, 1);
        fates(x, 1, 2, 1);
        // What KEEPS falls as what is nailed.
        x = Due.town("d0 a0 0;d4a b0 5;");
        Due.list(x, 1, 0, 1);
        fates(x, 0, 1, 5);
        fates(x, 2, 1, 5);
        Due.is(13, "two undone or fallen", x.behind(1, 2, 2), 2);
    }

    private static void whatIsUndone() {
        BackwardYears x = Due.town("ma;d0 a1 0;d6 a1 0;d7 b1 2;d0 b1 0;");
        Due.list(x, 1, 0);
        Due.is(13, "what it didn't change stays", x.behind(1, 0, 0), 1);
        Due.list(x, 1, 1);
        Due.is(13, "pulled", x.behind(1, 1, 0), 0);
        Due.is(13, "pulled and undone", x.behind(1, 0, 0), 1);
        x = Due.town("d6 b0 0;");
        Due.list(x, 1, 0);
        Due.is(13, "pulled, though it wasn't so", x.behind(1, 1, 0), 0);
        x = Due.town("ma;d0 a1 0;d6 a1 0;d7 b1 2;d0 b1 0;");
        Due.list(x, 1, 2);
        Due.is(13, "sworn makes both", x.behind(1, 1, 0), 7);
        Due.is(13, "sworn and undone", x.behind(1, 0, 0), 1);
        Due.list(x, 1, 3, 2);
        Due.is(13, "of two sworn marks the one that it changed", x.behind(1, 1, 0), 3);
        // Nailed behind it, a deed that changed nothing keeps no mark.
        Due.list(x, 1, 3, 3);
        Due.is(13, "the first changed it", x.behind(1, 2, 0), 1);
        Due.is(13, "the first changed it", x.behind(1, 1, 0), 3);
        // A pulled one, nailed, behind what was made; undoing that finds nothing to change.
        Due.list(x, 1, 0, 1);
        Due.is(13, "marks", x.behind(1, 2, 0), 0);
        x = Due.town("d0 a1 0;d6 a1 0;d0 a1 0;");
        Due.list(x, 1, 0, 1, 2);
        Due.is(13, "as it was ahead of it", x.behind(1, 5, 0), 1);
        Due.is(13, "as it was ahead of it", x.behind(1, 3, 0), 0);
    }

    private static void coinsBack() {
        BackwardYears x = Due.town("d0 a9 0;d1 a9 6;d2 a9 5;d3 a9 8;d4 a9 4;d5 a9 2;d6 a9 3;d7 a9 4;c9990;");
        int[] due = {9990, 9982, 9981, 9994, 9990, 9982, 9990, 9990};
        for (int deed = 0; deed < 8; deed++) {
            Due.list(x, 1, deed);
            Due.is(13, "coins behind deed " + deed, x.behind(1, 0, 1), due[deed]);
        }
        x.set(2, 9998);
        Due.list(x, 1, 3);
        Due.is(13, "9999 at most", x.behind(1, 0, 1), 9999);
    }

    private static void refusals() {
        BackwardYears x = Due.town(CHAIN);
        Due.list(x, 1, 0, 1);
        Due.is(9, "pair(1, -1)", x.pair(1, -1), -1);
        Due.is(9, "pair(1, 256)", x.pair(1, 256), -1);
        Due.is(9, "pair(6, 256)", x.pair(6, 256), -1);
        Due.is(9, "a refused call changes nothing", x.state(1), 0);
        Due.listRefusals(9, "pair", x, d -> x.pair(d, 0));
        Due.is(11, "mark -1", x.lasts(6, 0, -1), -1);
        Due.is(11, "mark 10", x.lasts(1, 0, 10), -1);
        Due.is(11, "nails 256", x.lasts(6, 256, 0), -1);
        Due.is(11, "mark 9", x.lasts(1, 0, 9), 0);
        Due.listRefusals(11, "lasts", x, d -> x.lasts(d, 0, 0));
        Due.is(12, "nails -1", x.why(6, -1, 0), -1);
        Due.is(12, "nails ahead of place", x.why(1, 256, 2), -1);
        Due.is(12, "list ahead of place", x.why(6, 0, 8), -11);
        Due.is(12, "place -1", x.why(1, 0, -1), -13);
        Due.is(12, "place 2 of 2", x.why(1, 0, 2), -13);
        Due.listRefusals(12, "why", x, d -> x.why(d, 0, 0));
        Due.is(13, "what 4", x.behind(6, 0, 4), -1);
        Due.is(13, "what -1", x.behind(1, 0, -1), -1);
        Due.is(13, "nails 256", x.behind(6, 256, 0), -1);
        Due.listRefusals(13, "behind", x, d -> x.behind(d, 0, 0));
    }
}
