/** Promises 1, 3 to 8, 27, 33 and 34 at their edges, sentence by sentence of the document's part 1. */
public final class DeedEdgesTest {
    private static final int LEAST = Integer.MIN_VALUE;
    private static final int MOST = Integer.MAX_VALUE;
    private static final int[] NO_DEEDS = {LEAST, -1, 8, MOST};
    /** What toss answers of a DEED with the number 0: of others the number more, but where there is none. */
    private static final int NO_FAILURE = -15;

    public static void main(String[] args) {
        newObject();
        plainDeeds();
        raisedDeeds();
        spentDeeds();
        lentDeeds();
        saidDeeds();
        builtDeeds();
        pulledDeeds();
        swornDeeds();
        whatIsOutOfRange();
        allEightDeeds();
        failuresOfAllEight();
        needsForMay();
        coinsForMay();
        marksOfDeeds();
        settings();
        counts();
        counted();
        Due.end();
    }

    /** "No DEEDS, nothing is so.", and of each thing how it is "at first". */
    private static void newObject() {
        BackwardYears x = new BackwardYears();
        Due.is(4, "no marks", x.marks(), 0);
        Due.is(5, "100 coins", x.state(0), 100);
        Due.is(5, "year 0", x.state(1), 0);
        Due.is(5, "law 0", x.state(2), 0);
        Due.is(5, "nail 10", x.state(3), 10);
        Due.is(6, "rise 0", x.rise(), 0);
        for (int deed = 0; deed < 8; deed++) {
            Due.is(1, "no deed " + deed, x.deed(deed, 0), -1);
            Due.is(1, "no deed " + deed, x.may(deed), -1);
            Due.is(1, "no deed to keep", x.keep(0, 1, deed), -1);
        }
        for (int what = 0; what < 6; what++) {
            Due.is(27, "count(" + what + ")", x.count(what), 0);
        }
        for (int d = 0; d < 8; d++) {
            Due.is(1, "nothing in shelf " + d, x.care(d), -11);
        }
        Due.is(1, "no image", x.restore(), -3);
        Due.is(17, "ever", x.ever(), 0);
        Due.is(18, "help", x.help(), 0);
        Due.is(20, "month", x.month(), 0);
        Due.is(21, "nail(7)", x.nail(7), 10);
        Due.is(23, "no deeds", x.seeded(1, 0, 0), -3);
        // One object is none of another's.
        Due.town("ma;d0 a0 0;c5;n7 +7;l2;");
        Due.is(1, "nothing is so in a new one", new BackwardYears().marks(), 0);
        Due.is(1, "no deeds in a new one", new BackwardYears().count(0), 0);
    }

    /** A DEED of a KIND: what it costs, what comes BACK, whether it KEEPS, its CARE, what is tossed. */
    private static void is(int kind, int pays, int figure, int... due) {
        String text = new StringBuilder("d").append(kind).append(" a").append(pays).append(' ').append(figure)
                .append(';').toString();
        BackwardYears x = Due.town(text);
        x.keep(3, 1, 0);
        Due.is(3, "the kind of " + text, x.deed(0, 0), kind);
        Due.is(3, "the pays of " + text, x.deed(0, 3), pays);
        Due.is(3, "the figure of " + text, x.deed(0, 4), figure);
        Due.is(3, "what is the cost of " + text, x.deed(0, 5), due[0]);
        Due.is(3, "what comes back of " + text, x.deed(0, 6), due[1]);
        Due.is(3, "whether it keeps: " + text, x.deed(0, 7), due[2]);
        Due.is(33, "care of " + text, x.care(3), due[3]);
        Due.is(34, "toss of " + text, x.toss(3), due[4]);
    }

    /** "DEED PAYS"; "DEED .. what it costs"; "others not"; "DEED 4". */
    private static void plainDeeds() {
        is(0, 0, 0, 0, 0, 0, 4, NO_FAILURE);
        is(0, 0, 1, 0, 0, 0, 4, 0);
        is(0, 99, 0, 99, 99, 0, 4, NO_FAILURE);
        is(0, 99, 9, 99, 99, 0, 4, 0);
    }

    /** "RAISED a DEED's and FIGURE"; "half of what it costs itself, cut"; "a DEED's times 3". */
    private static void raisedDeeds() {
        is(1, 0, 0, 0, 0, 0, 12, NO_FAILURE);
        is(1, 0, 1, 1, 0, 0, 12, 0);
        is(1, 1, 1, 2, 1, 0, 12, 0);
        is(1, 0, 9, 9, 4, 0, 12, 0);
        is(1, 99, 0, 99, 49, 0, 12, NO_FAILURE);
        is(1, 99, 9, 108, 54, 0, 12, 0);
    }

    /** "SPENT a DEED's"; "SPENT 0"; "SPENT a DEED's and PAYS". */
    private static void spentDeeds() {
        is(2, 0, 0, 0, 0, 0, 4, NO_FAILURE);
        is(2, 1, 9, 1, 0, 0, 5, 0);
        is(2, 99, 1, 99, 0, 0, 103, 0);
        is(2, 99, 0, 99, 0, 0, 103, NO_FAILURE);
    }

    /** "LENT half of a SPENT's, cut"; "LENT FIGURE"; "a SPENT's less FIGURE"; "LENT ones .. have none". */
    private static void lentDeeds() {
        is(3, 0, 0, 0, 0, 0, 4, NO_FAILURE);
        is(3, 0, 9, 0, 9, 0, -5, NO_FAILURE);
        is(3, 1, 5, 0, 5, 0, 0, NO_FAILURE);
        is(3, 2, 1, 1, 1, 0, 5, NO_FAILURE);
        is(3, 3, 8, 1, 8, 0, -1, NO_FAILURE);
        is(3, 99, 0, 49, 0, 0, 103, NO_FAILURE);
        is(3, 99, 9, 49, 9, 0, 94, NO_FAILURE);
        is(3, 98, 9, 49, 9, 0, 93, NO_FAILURE);
    }

    /** "SAID 0"; "SAID and SWORN ones with FIGURE 5 or more"; "a DEED's less 3". */
    private static void saidDeeds() {
        is(4, 0, 0, 0, 0, 0, 1, NO_FAILURE);
        is(4, 99, 4, 0, 0, 0, 1, 0);
        is(4, 99, 5, 0, 0, 1, 1, 0);
        is(4, 0, 9, 0, 0, 1, 1, 0);
    }

    /** "BUILT a RAISED's and 5"; "half of what it costs itself, cut"; "BUILT ones with FIGURE 9"; "100 more". */
    private static void builtDeeds() {
        is(5, 0, 0, 5, 2, 0, 13, NO_FAILURE);
        is(5, 0, 1, 6, 3, 0, 13, 100);
        is(5, 0, 9, 14, 7, 1, 13, 100);
        is(5, 99, 8, 112, 56, 0, 13, 100);
        is(5, 99, 9, 113, 56, 1, 13, 100);
        is(5, 99, 0, 104, 52, 0, 13, NO_FAILURE);
    }

    /** "PULLED .. as those above them"; "PULLED what it costs"; "PULLED twice a DEED's". */
    private static void pulledDeeds() {
        is(6, 0, 0, 0, 0, 0, 8, NO_FAILURE);
        is(6, 1, 1, 1, 1, 0, 8, 0);
        is(6, 99, 9, 99, 99, 0, 8, 0);
    }

    /** "SWORN as those above them"; "SAID, SWORN 0"; "a SAID's times FIGURE"; "200 plus their CARE, in place of ..". */
    private static void swornDeeds() {
        is(7, 0, 0, 0, 0, 0, 0, NO_FAILURE);
        is(7, 99, 0, 0, 0, 0, 0, NO_FAILURE);
        is(7, 0, 1, 0, 0, 0, 1, 201);
        is(7, 99, 4, 0, 0, 0, 4, 204);
        is(7, 99, 5, 0, 0, 1, 5, 205);
        is(7, 0, 9, 0, 0, 1, 9, 209);
    }

    /** "-1." of promises 3, 5, 8 and 27. */
    private static void whatIsOutOfRange() {
        BackwardYears x = Due.town("d0 a1 1;d0 a1 1;");
        for (int n : new int[] {LEAST, -1, 8, MOST}) {
            Due.is(3, "deed(0, " + n + ")", x.deed(0, n), -1);
        }
        for (int n : new int[] {LEAST, -1, 2, 7, 8, MOST}) {
            Due.is(3, "deed(" + n + ", 0)", x.deed(n, 0), -1);
            Due.is(3, "deed(" + n + ", 8)", x.deed(n, 8), -1);
            Due.is(8, "may(" + n + ")", x.may(n), -1);
        }
        for (int n : new int[] {LEAST, -1, 4, MOST}) {
            Due.is(5, "state(" + n + ")", x.state(n), -1);
        }
        for (int n : new int[] {LEAST, -1, 6, MOST}) {
            Due.is(27, "count(" + n + ")", x.count(n), -1);
        }
    }

    /** "DEEDS 0 .. 7 as they come". */
    private static void allEightDeeds() {
        BackwardYears x = Due.town("d0 a0 0;d1a b11 1;d2b c22 2;d3ij d33 3;d4d e44 4;");
        Due.is(3, "no sixth yet", x.deed(5, 0), -1);
        Due.read(x, "d5e f55 5;d6f g66 6;d7abcdefghij j99 9;");
        int[] needs = {0, 1, 2, 768, 8, 16, 32, 1023};
        int[] makes = {0, 1, 2, 3, 4, 5, 6, 9};
        for (int deed = 0; deed < 8; deed++) {
            Due.is(3, "kind of deed " + deed, x.deed(deed, 0), deed);
            Due.is(3, "needs of deed " + deed, x.deed(deed, 1), needs[deed]);
            Due.is(3, "makes of deed " + deed, x.deed(deed, 2), makes[deed]);
            Due.is(3, "pays of deed " + deed, x.deed(deed, 3), deed == 7 ? 99 : 11 * deed);
            Due.is(3, "figure of deed " + deed, x.deed(deed, 4), deed == 7 ? 9 : deed);
        }
        for (int deed : NO_DEEDS) {
            Due.is(3, "deed(" + deed + ", 0)", x.deed(deed, 0), -1);
            Due.is(8, "may(" + deed + ")", x.may(deed), -1);
            Due.is(28, "keep(0, 1, " + deed + ")", x.keep(0, 1, deed), -1);
        }
    }

    /** "its number (the DEED's)": each place for the KINDS that have one, and none for SWORN ones. */
    private static void failuresOfAllEight() {
        BackwardYears plain = Due.town("d0 a0 1;d1 a0 1;d2 a0 1;d4 a0 1;d6 a0 1;d0 a0 1;d1 a0 1;d2 a0 1;");
        BackwardYears built = Due.town("d5 a0 1;d5 a0 1;d5 a0 1;d5 a0 1;d5 a0 1;d5 a0 1;d5 a0 1;d5 a0 1;");
        BackwardYears sworn = Due.town("d7 a0 1;d7 a0 2;d7 a0 3;d7 a0 4;d7 a0 5;d7 a0 6;d7 a0 7;d7 a0 8;");
        for (int deed = 0; deed < 8; deed++) {
            plain.keep(deed, 1, deed);
            built.keep(deed, 1, deed);
            sworn.keep(deed, 1, deed);
            Due.is(34, "deed " + deed, plain.toss(deed), deed);
            Due.is(34, "built deed " + deed, built.toss(deed), 100 + deed);
            Due.is(34, "sworn deed " + deed, sworn.toss(deed), 200 + deed + 1);
        }
        Due.is(34, "tossed again", built.toss(7), 107);
        for (int d : NO_DEEDS) {
            Due.is(34, "toss(" + d + ")", plain.toss(d), -1);
            Due.is(33, "care(" + d + ")", plain.care(d), -1);
        }
        plain.keep(0, 0, 0);
        Due.is(34, "nothing held", plain.toss(0), -11);
        Due.is(33, "nothing held", plain.care(0), -11);
        for (int sort = 0; sort < 3; sort++) {
            plain.row(0, sort, sort);
            Due.is(34, "a row", plain.toss(0), -12);
            Due.is(33, "a row", plain.care(0), -12);
        }
    }

    /** "It MAY be done, if all that it NEEDS is so": none, each of all ten but one, all ten. */
    private static void needsForMay() {
        BackwardYears x = Due.town("d0 a0 0;d0abcdefghij a0 0;d0a a0 0;d0j a0 0;");
        Due.is(8, "needs none", x.may(0), 1);
        Due.is(8, "needs all", x.may(1), 0);
        Due.is(8, "needs a", x.may(2), 0);
        Due.is(8, "needs j", x.may(3), 0);
        for (char missing = 'a'; missing <= 'j'; missing++) {
            BackwardYears y = Due.town("d0abcdefghij a0 0;");
            for (char mark = 'a'; mark <= 'j'; mark++) {
                if (mark != missing) {
                    Due.read(y, "m" + mark + ";");
                }
            }
            Due.is(8, "all but " + missing, y.may(0), 0);
            Due.read(y, "m" + missing + ";");
            Due.is(8, "all", y.may(0), 1);
            Due.is(4, "all marks", y.marks(), 1023);
        }
    }

    /** "and there are as many COINS as it costs": of each KIND as many, and one less. */
    private static void coinsForMay() {
        BackwardYears x = Due.town("d0 a9 9;d1 a9 9;d2 a9 9;d3 a9 9;d4 a9 9;d5 a9 9;d6 a9 9;d7 a9 9;");
        int[] costs = {9, 18, 9, 4, 0, 23, 9, 0};
        for (int deed = 0; deed < 8; deed++) {
            x.set(2, costs[deed]);
            Due.is(8, "as many coins as deed " + deed + " costs", x.may(deed), 1);
            if (costs[deed] > 0) {
                x.set(2, costs[deed] - 1);
                Due.is(8, "one coin less than deed " + deed + " costs", x.may(deed), 0);
            }
        }
        x = Due.town("d5 a99 9;");
        x.set(2, 113);
        Due.is(8, "the dearest", x.may(0), 1);
        x.set(2, 112);
        Due.is(8, "the dearest, one less", x.may(0), 0);
        x.set(2, 9999);
        Due.is(8, "most coins", x.may(0), 1);
    }

    /** "its MAKES is so then; PULLED: its MAKES is not so then; SWORN: its MAKES and the MARK of the number FIGURE". */
    private static void marksOfDeeds() {
        int[] due = {1, 1, 1, 1, 1, 1, 0, 513};
        for (int kind = 0; kind < 8; kind++) {
            BackwardYears x = Due.town("d" + kind + " a0 9;");
            Due.list(x, 1, 0);
            x.even(1);
            Due.is(10, "marks behind kind " + kind, x.marks(), due[kind]);
            BackwardYears y = Due.town("ma;mj;mb;d" + kind + " a0 9;");
            Due.list(y, 1, 0);
            y.even(1);
            Due.is(10, "marks that were so behind kind " + kind, y.marks(), kind == 6 ? 514 : 515);
        }
        for (int figure = 0; figure < 10; figure++) {
            BackwardYears x = Due.town("d7 e0 " + figure + ";");
            Due.list(x, 1, 0);
            x.even(1);
            Due.is(10, "sworn with figure " + figure, x.marks(), 16 | 1 << figure);
        }
        for (char mark = 'a'; mark <= 'j'; mark++) {
            BackwardYears x = Due.town("d0 " + mark + "0 0;");
            Due.list(x, 1, 0);
            x.even(1);
            Due.is(10, "made " + mark, x.marks(), 1 << mark - 'a');
        }
    }

    private static void setIs(BackwardYears x, int what, int n, int due) {
        Due.is(7, "set(" + what + ", " + n + ")", x.set(what, n), due);
    }

    /** "LAW (0 .. 2 ..), NAIL (0 .. 99 ..), COINS (0 .. 9999 ..)"; "becomes n: what it was. -1." */
    private static void settings() {
        int[] most = {2, 99, 9999};
        int[] asState = {2, 3, 0};
        int[] first = {0, 10, 100};
        for (int what = 0; what < 3; what++) {
            BackwardYears x = new BackwardYears();
            setIs(x, what, most[what], first[what]);
            Due.is(5, "the most", x.state(asState[what]), most[what]);
            for (int n : new int[] {LEAST, -1, most[what] + 1, 10000, MOST}) {
                setIs(x, what, n, -1);
                Due.is(5, "it stays", x.state(asState[what]), most[what]);
            }
            setIs(x, what, 0, most[what]);
            Due.is(5, "the least", x.state(asState[what]), 0);
            setIs(x, what, -1, -1);
            setIs(x, what, 1, 0);
            setIs(x, what, 1, 1);
            for (int other = 0; other < 3; other++) {
                Due.is(7, "the others stay", x.state(asState[other]), other == what ? 1 : first[other]);
            }
        }
        BackwardYears x = new BackwardYears();
        for (int what : new int[] {LEAST, -1, 3, MOST}) {
            setIs(x, what, 0, -1);
            setIs(x, what, 1, -1);
        }
        Due.is(7, "nothing was set", x.state(0), 100);
    }

    /** "0 DEEDS, 1 MARKS that are so, 2 DEEDS that MAY be done, 3 DEEDS that KEEP, 4 PULLED ones, 5 all PAYS". */
    private static void counts() {
        countsAre(new BackwardYears(), 0, 0, 0, 0, 0, 0);
        BackwardYears x = Due.town("d6 a99 9;d6 a99 9;d6 a99 9;d6 a99 9;d6 a99 9;d6 a99 9;d6 a99 9;d6 a99 9;");
        countsAre(x, 8, 0, 8, 0, 8, 792);
        Due.read(x, "ma;mb;mc;md;me;mf;mg;mh;mi;mj;c98;");
        countsAre(x, 8, 10, 0, 0, 8, 792);
        x = Due.town("d4a a99 5;d4 a0 4;d7 a1 5;d7 a0 4;d5 a0 9;d5 a0 8;d0 a0 9;d3 a0 9;");
        countsAre(x, 8, 0, 7, 3, 0, 100);
        x.set(2, 13);
        countsAre(x, 8, 0, 6, 3, 0, 100);
        x.set(2, 12);
        countsAre(x, 8, 0, 5, 3, 0, 100);
    }

    private static void countsAre(BackwardYears x, int... due) {
        for (int what = 0; what < 6; what++) {
            Due.is(27, "count(" + what + ")", x.count(what), due[what]);
        }
    }

    /** "An object is used for at most 512 calls": the last one still answers. */
    private static void counted() {
        BackwardYears x = new BackwardYears();
        x.row(0, Due.BYTES, 0);
        for (int call = 2; call < 512; call++) {
            x.pair(0, 0);
        }
        Due.is(5, "the 512th call: the year", x.state(1), 2 * 510);
    }
}
