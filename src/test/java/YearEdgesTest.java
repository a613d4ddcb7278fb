/** Promises 9 to 13 and 22 at their edges, sentence by sentence of the document's part 3 (lists, years, laws). */
public final class YearEdgesTest {
    private static final int LEAST = Integer.MIN_VALUE;
    private static final int MOST = Integer.MAX_VALUE;
    /** Each DEED NEEDS what the one ahead of it makes. */
    private static final String CHAIN =
            "d0 a0 0;d0a b0 0;d0b c0 0;d0c d0 0;d0d e0 0;d0e f0 0;d0f g0 0;d0g h0 0;n0 +0;";

    public static void main(String[] args) {
        emptyLists();
        listsOfEight();
        elementsOfLists();
        nailsByPlaces();
        notDone();
        coinsForDeeds();
        nailsAndRise();
        coinsForNails();
        lastFirst();
        undoneMarks();
        mostCoins();
        staysByLawOne();
        staysNotByLawOne();
        fallsByLawZero();
        fallsAgainAndAgain();
        fallsFromTheLast();
        fallsOnce();
        neitherByLawTwo();
        standsForEver();
        yearsPassed();
        whyOfPlaces();
        lastsOfMarks();
        behindOfWhats();
        byLaws();
        Due.end();
    }

    private static void fates(BackwardYears x, int nails, int... due) {
        for (int place = 0; place < due.length; place++) {
            Due.is(12, "why(1, " + nails + ", " + place + ")", x.why(1, nails, place), due[place]);
        }
    }

    private static void behindIs(BackwardYears x, int nails, int... due) {
        for (int what = 0; what < due.length; what++) {
            Due.is(13, "behind(1, " + nails + ", " + what + ")", x.behind(1, nails, what), due[what]);
        }
    }

    /** "A LIST: a ROW of bytes": also one of none, also where there are no DEEDS. */
    private static void emptyLists() {
        BackwardYears x = Due.town("ma;");
        Due.list(x, 1);
        for (int nails : new int[] {0, 1, 255}) {
            Due.is(9, "pair of none", x.pair(1, nails), 0);
            behindIs(x, nails, 1, 100, 0, 0);
            Due.is(11, "lasts", x.lasts(1, nails, 0), 1);
            Due.is(11, "lasts", x.lasts(1, nails, 1), 0);
            Due.is(12, "no place 0", x.why(1, nails, 0), -13);
            Due.is(22, "by law", x.byLaw(0, 1, nails), 1);
        }
        Due.is(10, "even of none", x.even(1), 0);
        Due.is(10, "the year", x.state(1), 7);
        Due.is(10, "marks", x.marks(), 1);
        Due.is(10, "coins", x.state(0), 100);
    }

    /** "DEEDS in their order (8 at most)": eight are taken, nine and a hundred aren't. */
    private static void listsOfEight() {
        BackwardYears x = Due.town(CHAIN);
        Due.list(x, 1, 0, 1, 2, 3, 4, 5, 6, 7);
        Due.is(9, "pair of eight", x.pair(1, 255), 8);
        Due.is(9, "marks", x.marks(), 255);
        Due.list(x, 1, 7, 7, 7, 7, 7, 7, 7, 7);
        Due.is(10, "even of one deed eight times", x.even(1), 8);
        Due.list(x, 1, 0, 0, 0, 0, 0, 0, 0, 0, 0);
        Due.is(9, "pair of nine", x.pair(1, 0), -13);
        Due.is(10, "even of nine", x.even(1), -13);
        Due.is(9, "the years of both", x.state(1), 3);
        Due.list(x, 1, 0, 0, 0, 0, 0, 0, 0, 0, 8);
        Due.is(9, "pair of nine", x.pair(1, 256), -1);
        x.row(1, Due.BYTES, 100);
        Due.is(9, "pair of a hundred", x.pair(1, 0), -13);
        Due.is(12, "why of a hundred", x.why(1, 0, 0), -13);
    }

    /** "-13 (more than 8, or no DEED)": the last DEED is one, the number behind it and those below 0 aren't. */
    private static void elementsOfLists() {
        BackwardYears x = Due.town("d0 a0 0;d0 a0 0;");
        for (int place = 0; place < 8; place++) {
            x.row(1, Due.BYTES, 8);
            for (int wrong : new int[] {2, 7, 8, 127, -1, -128}) {
                x.put(1, place, wrong);
                Due.is(10, "even with " + wrong + " at place " + place, x.even(1), -13);
            }
            x.put(1, place, 1);
            Due.is(10, "even with 1 at place " + place, x.even(1), 8);
        }
        Due.list(x, 1, 256, 257, -255);
        Due.is(10, "of what is put in the lowest bits", x.even(1), 3);
        BackwardYears none = new BackwardYears();
        Due.list(none, 1, 0);
        Due.is(10, "without deeds", none.even(1), -13);
        BackwardYears all = Due.town(CHAIN);
        Due.list(all, 1, 0, 7);
        Due.is(10, "the eighth", all.even(1), 1);
        Due.list(all, 1, 8);
        Due.is(10, "a ninth", all.even(1), -13);
    }

    /** "NAILS: a set of its places (bits)", 0 .. 255: each place's bit; bits beyond a LIST nail nothing. */
    private static void nailsByPlaces() {
        BackwardYears x = Due.town("d0 a0 0;d0 b0 0;d0 c0 0;d0 d0 0;d0 e0 0;d0 f0 0;d0 g0 0;d0 h0 0;c99;");
        Due.list(x, 1, 0, 1, 2, 3, 4, 5, 6, 7);
        for (int place = 0; place < 8; place++) {
            behindIs(x, 1 << place, 1 << place, 89, 7, 10);
        }
        behindIs(x, 0, 0, 99, 8, 0);
        behindIs(x, 254, 254, 29, 1, 70);
        behindIs(x, 255, 255, 19, 0, 80);
        Due.list(x, 1, 0, 1);
        behindIs(x, 252, 0, 99, 2, 0);
        behindIs(x, 255, 3, 79, 0, 20);
        Due.list(x, 1);
        behindIs(x, 255, 0, 99, 0, 0);
        for (int nails : new int[] {LEAST, -1, 256, MOST}) {
            Due.is(9, "pair(1, " + nails + ")", x.pair(1, nails), -1);
            Due.is(11, "lasts(1, " + nails + ", 0)", x.lasts(1, nails, 0), -1);
            Due.is(12, "why(1, " + nails + ", 0)", x.why(1, nails, 0), -1);
            Due.is(13, "behind(1, " + nails + ", 0)", x.behind(1, nails, 0), -1);
            Due.is(22, "byLaw(0, 1, " + nails + ")", x.byLaw(0, 1, nails), -1);
        }
        Due.is(9, "the year", x.state(1), 0);
    }

    /** "others are not (nothing happens)": no MARK, no COIN, no NAIL, and nothing to undo. */
    private static void notDone() {
        BackwardYears x = Due.town("d7a b9 5;d3a c9 9;d6a d9 0;d5 e99 9;md;c100;n1 +0;");
        Due.list(x, 1, 0, 1, 2, 3);
        behindIs(x, 15, 8, 100, 0, 0);
        fates(x, 15, 0, 0, 0, 0);
        Due.is(9, "pair", x.pair(1, 15), 0);
        Due.is(10, "even", x.even(1), 0);
        Due.is(10, "marks", x.marks(), 8);
        Due.is(10, "coins", x.state(0), 100);
        Due.is(10, "the years pass", x.state(1), 3);
        // What isn't done at one place can be done at a later one.
        x = Due.town("d0a b0 0;d0 a0 0;");
        Due.list(x, 1, 0, 1, 0);
        fates(x, 0, 0, 1, 1);
        Due.is(10, "even", x.even(1), 2);
    }

    /** "one that MAY be done is": with the last COIN, not with one less. */
    private static void coinsForDeeds() {
        BackwardYears x = Due.town("d2 a10 0;d2 b5 0;d2 c4 0;c19;");
        Due.list(x, 1, 0, 1, 2);
        Due.is(10, "19 coins for 10, 5 and 4", x.even(1), 3);
        Due.is(10, "coins", x.state(0), 0);
        x.set(2, 18);
        Due.is(10, "18 coins", x.even(1), 2);
        Due.is(10, "coins", x.state(0), 3);
        x.set(2, 14);
        Due.is(10, "14 coins: not 5, but 4", x.even(1), 2);
        Due.is(10, "coins", x.state(0), 0);
        x.set(2, 9);
        Due.is(10, "9 coins: not 10, but 5 and 4", x.even(1), 2);
        Due.is(10, "coins", x.state(0), 0);
    }

    /** "costs NAIL and i times RISE (0 at least)": the last place, the least and greatest NAIL and RISE. */
    private static void nailsAndRise() {
        BackwardYears x = Due.town("d0 a0 0;c9999;n99 +9;");
        Due.list(x, 1, 0, 0, 0, 0, 0, 0, 0, 0);
        behindIs(x, 1, 1, 9900, 7, 99);
        behindIs(x, 128, 0, 9837, 7, 162);
        behindIs(x, 255, 1, 9999 - 8 * 99 - 28 * 9, 0, 8 * 99 + 28 * 9);
        Due.read(x, "n99 -9;");
        behindIs(x, 128, 0, 9963, 7, 36);
        Due.read(x, "n63 -9;");
        behindIs(x, 64, 0, 9990, 7, 9);
        behindIs(x, 128, 0, 9999, 7, 0);
        Due.read(x, "n62 -9;");
        behindIs(x, 128, 0, 9999, 7, 0);
        fates(x, 128, 1, 1, 1, 1, 1, 1, 1, 2);
        Due.read(x, "n0 -9;");
        behindIs(x, 255, 1, 9999, 0, 0);
        Due.read(x, "n0 +9;");
        behindIs(x, 3, 1, 9990, 6, 9);
        Due.read(x, "n0 +0;");
        behindIs(x, 255, 1, 9999, 0, 0);
    }

    /** "at once; without as many COINS it is not nailed". */
    private static void coinsForNails() {
        BackwardYears x = Due.town("d2 a10 0;d2 b1 0;n5 +0;c15;");
        Due.list(x, 1, 0, 1);
        // As many as deed and nail cost: then none is left for the second.
        behindIs(x, 1, 1, 0, 0, 5);
        fates(x, 1, 2, 0);
        // One coin less: not nailed, and the second is done.
        x.set(2, 14);
        behindIs(x, 1, 0, 3, 2, 0);
        fates(x, 1, 1, 1);
        x.set(2, 16);
        behindIs(x, 3, 1, 0, 1, 5);
        x.set(2, 21);
        behindIs(x, 3, 3, 0, 0, 10);
        // Without coins for the one, there are still coins for a cheaper one behind it.
        x = Due.town("d4 a0 0;d4 b0 0;n5 -1;c4;");
        Due.list(x, 1, 0, 1);
        behindIs(x, 3, 2, 0, 1, 4);
        // A nail for nothing needs no coins.
        x = Due.town("d4 a0 0;n0 +9;c0;");
        Due.list(x, 1, 0, 0);
        behindIs(x, 3, 1, 0, 1, 0);
        fates(x, 3, 2, 1);
        // What comes back later doesn't help: nailing is paid in the EVEN YEAR.
        x = Due.town("d3 a0 9;d4 b0 0;n9 +0;c8;");
        Due.list(x, 1, 0, 1);
        behindIs(x, 2, 0, 17, 2, 0);
    }

    /** "DONE ones by places, last first". */
    private static void lastFirst() {
        // Made, then pulled: pulling is undone first, which makes it so again, then what made it so.
        BackwardYears x = Due.town("d0 a0 0;d6 a0 0;");
        Due.list(x, 1, 0, 1);
        behindIs(x, 0, 0, 100, 2, 0);
        // Pulled, then made: it is so in the end, as it was.
        Due.read(x, "ma;");
        Due.list(x, 1, 1, 0);
        behindIs(x, 0, 1, 100, 2, 0);
        // So also over all eight places.
        x = Due.town("ma;d0 a0 0;d6 a0 0;");
        Due.list(x, 1, 1, 0, 1, 0, 1, 0, 1, 0);
        behindIs(x, 0, 1, 100, 8, 0);
        behindIs(x, 1, 0, 90, 7, 10);
        Due.list(x, 1, 0, 1, 0, 1, 0, 1, 0, 1);
        behindIs(x, 0, 1, 100, 8, 0);
        behindIs(x, 4, 1, 90, 7, 10);
    }

    /** "makes those MARKS that it changed as they were ahead of it (what it didn't change stays)". */
    private static void undoneMarks() {
        BackwardYears x = Due.town("d0 a0 0;d6 a0 0;d7 b0 2;");
        Due.list(x, 1, 0, 0, 0);
        behindIs(x, 2, 0, 90, 2, 10);
        behindIs(x, 1, 1, 90, 2, 10);
        Due.list(x, 1, 1);
        behindIs(x, 0, 0, 100, 1, 0);
        Due.list(x, 1, 2, 2);
        behindIs(x, 1, 6, 90, 1, 10);
        behindIs(x, 2, 0, 90, 1, 10);
        // Of two marks the one that was so stays, the other one goes.
        Due.read(x, "mc;");
        behindIs(x, 0, 4, 100, 2, 0);
        Due.read(x, "mb;");
        behindIs(x, 0, 6, 100, 2, 0);
        // Sworn with both marks the same.
        x = Due.town("d7 d0 3;");
        Due.list(x, 1, 0);
        behindIs(x, 1, 8, 90, 0, 10);
        behindIs(x, 0, 0, 100, 1, 0);
        // The last mark.
        x = Due.town("d7 i0 9;d6 j0 0;");
        Due.list(x, 1, 0, 1);
        behindIs(x, 1, 768, 90, 1, 10);
        behindIs(x, 3, 256, 80, 0, 20);
        // The sworn one KEEPS by its FIGURE.
        behindIs(x, 0, 768, 100, 1, 0);
    }

    /** "COINS are more by what comes BACK (9999 at most)". */
    private static void mostCoins() {
        BackwardYears x = Due.town("d3 a0 9;d3 a0 1;d3 a0 0;");
        int[] coins = {9989, 9990, 9991, 9999};
        int[] nine = {9998, 9999, 9999, 9999};
        for (int i = 0; i < coins.length; i++) {
            x.set(2, coins[i]);
            Due.list(x, 1, 0);
            behindIs(x, 0, 0, nine[i], 1, 0);
            Due.list(x, 1, 2);
            behindIs(x, 0, 0, coins[i], 1, 0);
        }
        x.set(2, 9998);
        Due.list(x, 1, 1);
        Due.is(9, "pair", x.pair(1, 0), 0);
        Due.is(9, "9999", x.state(0), 9999);
        Due.is(9, "pair", x.pair(1, 0), 0);
        Due.is(9, "9999 at most", x.state(0), 9999);
        // Also as one falls.
        x = Due.town("d0 a0 0;d3a b0 9;n0 +0;c9995;");
        Due.list(x, 1, 0, 1);
        behindIs(x, 2, 0, 9999, 2, 0);
    }

    /** "under LAW 1 not, if some DONE one behind it that is nailed or KEEPS .. NEEDS a MARK that it changed". */
    private static void staysByLawOne() {
        BackwardYears x = Due.town("d0 a5 0;d0a b0 0;d4a c0 5;d5a d0 9;l1;n0 +0;");
        Due.list(x, 1, 0, 1);
        fates(x, 0, 1, 1);
        fates(x, 2, 4, 2);
        behindIs(x, 2, 3, 95, 0, 0);
        Due.list(x, 1, 0, 2);
        fates(x, 0, 4, 3);
        Due.list(x, 1, 0, 3);
        fates(x, 0, 4, 3);
        // From the first place to the last.
        Due.list(x, 1, 0, 1, 1, 1, 1, 1, 1, 2);
        fates(x, 0, 4, 1, 1, 1, 1, 1, 1, 3);
        Due.is(9, "two stand", x.pair(1, 0), 2);
        Due.is(9, "it stays for good", x.marks(), 5);
        // It is a mark that it changed, also for a pulled one: as a was pulled, then made, both hold.
        x = Due.town("ma;d6 a0 0;d0 a0 0;d4a b0 5;l1;");
        Due.list(x, 1, 0, 1, 2);
        fates(x, 0, 4, 4, 3);
        // Of a sworn one's marks either one.
        x = Due.town("d7 a0 1;d4a c0 5;d4b d0 5;l1;");
        Due.list(x, 1, 0, 1);
        fates(x, 0, 4, 3);
        Due.list(x, 1, 0, 2);
        fates(x, 0, 4, 3);
        // Of several marks that are needed any.
        x = Due.town("ma;d0 j0 0;d4aj b0 5;l1;");
        Due.list(x, 1, 0, 1);
        fates(x, 0, 4, 3);
    }

    /** The same sentence's edges on the other side: what it didn't change, what isn't firm, done or behind it. */
    private static void staysNotByLawOne() {
        BackwardYears x = Due.town("ma;d0 a0 0;d4a b0 5;d7 a0 2;l1;");
        Due.list(x, 1, 0, 1);
        fates(x, 0, 1, 3);
        Due.list(x, 1, 2, 1);
        fates(x, 0, 1, 3);
        // Ahead of it.
        x = Due.town("ma;d4a b0 5;d6 a0 0;d0 a0 0;l1;");
        Due.list(x, 1, 0, 1);
        fates(x, 0, 3, 1);
        Due.list(x, 1, 0, 1, 2);
        fates(x, 0, 3, 1, 1);
        // Not done: no coins for it.
        x = Due.town("d0 a0 0;d5a b99 9;l1;");
        Due.list(x, 1, 0, 1);
        fates(x, 0, 1, 0);
        fates(x, 2, 1, 0);
        // Neither nailed nor one that KEEPS, though FIGURE 4 and 8 are next to it; nor one that stays itself.
        x = Due.town("d0 a0 0;d4a b0 4;d5a c0 8;d4b d0 5;l1;");
        Due.list(x, 1, 0, 1);
        fates(x, 0, 1, 1);
        Due.list(x, 1, 0, 2);
        fates(x, 0, 1, 1);
        Due.list(x, 1, 0, 1, 3);
        fates(x, 0, 1, 4, 3);
        // Nailed in mind, but without the coins for it.
        x = Due.town("d0 a0 0;d0a b0 0;l1;c9;");
        Due.list(x, 1, 0, 1);
        fates(x, 2, 1, 1);
        x.set(2, 10);
        fates(x, 2, 4, 2);
        // It needs another mark.
        x = Due.town("d0 a0 0;d0 b0 0;d4b c0 5;l1;");
        Due.list(x, 1, 0, 1, 2);
        fates(x, 0, 1, 4, 3);
    }

    /** "nailed ones and ones that KEEP, not undone yet, that NEED a MARK that isn't so FALL (are undone) too". */
    private static void fallsByLawZero() {
        BackwardYears x = Due.town("d0 a0 0;d0a b0 0;d4a c0 5;d5a d0 9;d4a e0 4;n0 +0;");
        Due.list(x, 1, 0, 1, 2, 3, 4);
        fates(x, 0, 1, 1, 5, 5, 1);
        fates(x, 2, 1, 5, 5, 5, 1);
        fates(x, 14, 1, 5, 5, 5, 1);
        fates(x, 1, 2, 1, 3, 3, 1);
        // One of several marks that isn't so is enough.
        x = Due.town("ma;d0 b0 0;d4ab c0 5;");
        Due.list(x, 1, 0, 1);
        fates(x, 0, 1, 5);
        // It needn't have been undone: pulled for good, a isn't so, but only behind one that is undone is it asked.
        x = Due.town("ma;d4a b0 5;d6 a0 0;d0 c0 0;n0 +0;");
        Due.list(x, 1, 0, 1);
        fates(x, 2, 3, 2);
        Due.list(x, 1, 0, 1, 2);
        fates(x, 2, 5, 2, 1);
        fates(x, 6, 3, 2, 2);
        // What was so ahead of the list is so behind it: none falls.
        x = Due.town("ma;d0 a0 0;d4a b0 5;");
        Due.list(x, 1, 0, 1);
        fates(x, 0, 1, 3);
    }

    /** "again and again till none falls": all eight, one a round. */
    private static void fallsAgainAndAgain() {
        BackwardYears x = Due.town(CHAIN);
        Due.list(x, 1, 0, 1, 2, 3, 4, 5, 6, 7);
        fates(x, 254, 1, 5, 5, 5, 5, 5, 5, 5);
        behindIs(x, 254, 0, 100, 8, 0);
        Due.is(9, "none stands", x.pair(1, 254), 0);
        fates(x, 255, 2, 2, 2, 2, 2, 2, 2, 2);
        fates(x, 253, 2, 1, 5, 5, 5, 5, 5, 5);
        fates(x, 127, 2, 2, 2, 2, 2, 2, 2, 1);
        // In the sixteen places of two lists: all eight in turn, then the first, which needs nothing, eight times.
        Due.list(x, 2, 1, 3, 5, 7, 0, 0, 0, 0);
        Due.list(x, 1, 0, 2, 4, 6, 0, 0, 0, 0);
        Due.is(19, "only those that need nothing stand", x.two(1, 2, 254, 255, 0), 4);
        Due.is(19, "only those that need nothing stand", x.two(1, 2, 254, 255, 1), 4);
        Due.is(19, "nailed, all stand", x.two(1, 2, 255, 255, 0), 8);
    }

    /** "gone through from the last to the first, each asked as things are when it is come to". */
    private static void fallsFromTheLast() {
        // The last one falls without c, which brings a back: so the first, asked then, stands.
        BackwardYears x = Due.town("ma;d0a b0 0;d0 c0 0;d6c a0 0;n0 +0;");
        Due.list(x, 1, 0, 1, 2);
        fates(x, 5, 2, 1, 5);
        behindIs(x, 5, 3, 100, 2, 0);
        // Of two the last falls first, and what it brings back holds the one ahead of it.
        x = Due.town("ma;d0 c0 0;d0ac b0 0;d0b e0 0;d6c a0 0;n0 +0;");
        Due.list(x, 1, 0, 1, 2, 3);
        fates(x, 14, 1, 5, 5, 5);
    }

    /** "not undone yet": what fell doesn't fall again, however many are undone behind it. */
    private static void fallsOnce() {
        BackwardYears x = Due.town("d0 d3 0;d0 c2 0;d0 a5 0;d0a b7 0;");
        Due.list(x, 1, 0, 1, 2, 3);
        behindIs(x, 8, 0, 90, 4, 10);
        fates(x, 8, 1, 1, 1, 5);
        Due.list(x, 1, 0, 2, 3, 1);
        behindIs(x, 4, 0, 90, 4, 10);
        fates(x, 4, 1, 1, 5, 1);
    }

    /** "LAW 2: none falls, none stays." */
    private static void neitherByLawTwo() {
        BackwardYears x = Due.town(CHAIN + "l2;");
        Due.list(x, 1, 0, 1, 2, 3, 4, 5, 6, 7);
        fates(x, 254, 1, 2, 2, 2, 2, 2, 2, 2);
        fates(x, 128, 1, 1, 1, 1, 1, 1, 1, 2);
        behindIs(x, 128, 128, 100, 7, 0);
        Due.is(9, "one stands", x.pair(1, 128), 1);
        x = Due.town("d0 a0 0;d4a b0 5;d5a c0 9;l2;");
        Due.list(x, 1, 0, 1, 2);
        fates(x, 0, 1, 3, 3);
    }

    /** "A PAIR of years: both; DEEDS that stand then last for ever." */
    private static void standsForEver() {
        BackwardYears x = Due.town("d0 a0 0;d0a b0 0;");
        Due.list(x, 1, 0);
        Due.is(9, "nailed", x.pair(1, 1), 1);
        Due.is(9, "another pair", x.pair(1, 0), 0);
        Due.is(9, "it is still so", x.marks(), 1);
        Due.list(x, 1, 1);
        Due.is(9, "what needs it", x.pair(1, 1), 1);
        Due.list(x, 1);
        Due.is(9, "an empty pair", x.pair(1, 0), 0);
        Due.is(9, "both are so", x.marks(), 3);
        // What an EVEN YEAR alone did isn't undone by the pairs behind it.
        BackwardYears y = Due.town("d0 a9 0;");
        Due.list(y, 1, 0);
        Due.is(10, "an even year alone", y.even(1), 1);
        Due.is(10, "it is so", y.marks(), 1);
        Due.is(10, "and paid", y.state(0), 91);
        Due.is(9, "a pair", y.pair(1, 0), 0);
        Due.is(9, "it is still so", y.marks(), 1);
    }

    /** "YEAR is 2 more"; "YEAR is 1 more"; not of a refused call, nor in mind. */
    private static void yearsPassed() {
        BackwardYears x = Due.town("d0 a0 0;");
        Due.list(x, 1, 0);
        x.pair(1, 0);
        Due.is(9, "the year behind a pair", x.state(1), 2);
        x.even(1);
        Due.is(10, "the year behind an even one", x.state(1), 3);
        x.pair(1, 0);
        Due.is(9, "a pair begins with an odd one, too", x.state(1), 5);
        x.even(1);
        x.even(1);
        Due.is(10, "two even ones", x.state(1), 7);
        x.pair(1, 256);
        x.pair(2, 0);
        x.even(2);
        x.even(8);
        x.behind(1, 0, 0);
        x.why(1, 0, 0);
        x.lasts(1, 0, 0);
        x.byLaw(0, 1, 0);
        Due.is(9, "the year", x.state(1), 7);
    }

    /** "0 not done; 1 undone; 2 nailed, stands; 3 KEEPS, stands; 4 stays by LAW 1; 5 it fell"; "-13 place". */
    private static void whyOfPlaces() {
        BackwardYears x = Due.town("d0 a0 0;d0a b0 0;d4 c0 5;d0j d0 0;l1;n0 +0;");
        Due.list(x, 1, 3, 0, 1, 2, 0, 2, 1, 3);
        fates(x, 64, 0, 4, 1, 3, 1, 3, 2, 0);
        fates(x, 64 + 8 + 4 + 1, 0, 4, 2, 2, 1, 3, 2, 0);
        x.set(0, 0);
        fates(x, 64, 0, 1, 1, 3, 1, 3, 5, 0);
        for (int place : new int[] {LEAST, -1, 8, 9, MOST}) {
            Due.is(12, "why(1, 0, " + place + ")", x.why(1, 0, place), -13);
        }
        Due.list(x, 1, 0);
        Due.is(12, "the only place", x.why(1, 0, 0), 1);
        Due.is(12, "one beyond it", x.why(1, 0, 1), -13);
        // A nail that can't be paid for: one that KEEPS does so all the same.
        x = Due.town("d4 a0 5;c9;");
        Due.list(x, 1, 0);
        fates(x, 1, 3);
        behindIs(x, 1, 1, 9, 0, 0);
        x.set(2, 10);
        fates(x, 1, 2);
        behindIs(x, 1, 1, 0, 0, 10);
        // Nailed, it falls all the same.
        x = Due.town("d0 a0 0;d4a b0 5;n0 +0;");
        Due.list(x, 1, 0, 1);
        fates(x, 2, 1, 5);
    }

    /** "LASTS: whether a MARK is so behind the PAIR (in mind)": each of the ten; "-1 (MARK, NAILS)". */
    private static void lastsOfMarks() {
        for (int mark = 0; mark < 10; mark++) {
            BackwardYears x = Due.town("d7 " + (char) ('a' + mark) + "0 5;mf;");
            Due.list(x, 1, 0);
            for (int other = 0; other < 10; other++) {
                Due.is(11, "lasts(1, 0, " + other + ")", x.lasts(1, 0, other), other == mark || other == 5 ? 1 : 0);
            }
            Due.is(11, "in mind alone", x.marks(), 32);
        }
        BackwardYears x = Due.town("d6 a0 0;ma;n10 +0;c10;");
        Due.list(x, 1, 0);
        Due.is(11, "pulled for good", x.lasts(1, 1, 0), 0);
        Due.is(11, "pulled and undone", x.lasts(1, 0, 0), 1);
        for (int mark : new int[] {LEAST, -1, 10, 31, 32, MOST}) {
            Due.is(11, "lasts(1, 0, " + mark + ")", x.lasts(1, 0, mark), -1);
        }
    }

    /** "Behind the PAIR: MARKS (what 0), COINS (1), how many were undone or fell (2), what was paid (3). -1". */
    private static void behindOfWhats() {
        BackwardYears x = Due.town("d0 a9 0;d0a b8 0;d2 j7 0;n1 +1;");
        Due.list(x, 1, 0, 1, 2);
        behindIs(x, 0, 0, 93, 3, 0);
        behindIs(x, 2, 0, 91, 3, 2);
        behindIs(x, 7, 515, 100 - 24 - 6, 0, 6);
        for (int what : new int[] {LEAST, -1, 4, MOST}) {
            Due.is(13, "behind(1, 0, " + what + ")", x.behind(1, 0, what), -1);
        }
        Due.is(13, "in mind alone", x.state(0), 100);
    }

    /** "how many MARKS are so behind the PAIR by each LAW"; LAW 0 .. 2, whatever LAW there is. */
    private static void byLaws() {
        for (int law = 0; law < 3; law++) {
            BackwardYears x = Due.town("d0 a0 0;d4a b0 5;d0 c0 0;mj;");
            x.set(0, law);
            Due.list(x, 1, 0, 1, 2);
            Due.is(22, "law 0: b falls with a", x.byLaw(0, 1, 0), 1);
            Due.is(22, "law 1: a stays", x.byLaw(1, 1, 0), 3);
            Due.is(22, "law 2: b alone", x.byLaw(2, 1, 0), 2);
            Due.is(22, "all nailed", x.byLaw(law, 1, 7), 4);
            for (int none : new int[] {LEAST, -1, 3, MOST}) {
                Due.is(22, "byLaw(" + none + ", 1, 0)", x.byLaw(none, 1, 0), -1);
            }
            Due.is(22, "the law stays", x.state(2), law);
            Due.is(22, "and holds for what comes behind", x.lasts(1, 0, 0), law == 1 ? 1 : 0);
            Due.is(22, "and holds for what comes behind", x.lasts(1, 0, 1), law == 0 ? 0 : 1);
        }
        BackwardYears x = Due.town("ma;mb;mc;md;me;mf;mg;mh;mi;mj;");
        Due.list(x, 1);
        Due.is(22, "all ten", x.byLaw(0, 1, 255), 10);
    }
}
