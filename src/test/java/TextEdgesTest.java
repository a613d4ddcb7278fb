/** Promise 2 at its edges, sentence by sentence of the document's part 2 (towns as texts). */
public final class TextEdgesTest {
    private static final String DIGITS = "0123456789";
    private static final String LETTERS = "abcdefghij";
    private static final String STATEMENT_LETTERS = "dmcnl";
    /** All hundred elements, fifteen STATEMENTS, each kind with its least and greatest numbers. */
    private static final String HUNDRED = "d0abcdefghij j99 9;d1 a0 0;mb;c9999;n99 -9;n0 +0;l2;c0;d7ij i10 5;mj;l0;"
            + "c100;d6 c1 1;d5e f7 9;c1234;";
    private static final String EIGHT_DEEDS =
            "d0 a0 0;d0 a0 0;d0 a0 0;d0 a0 0;d0 a0 0;d0 a0 0;d0 a0 0;d0 a0 0;";

    public static void main(String[] args) {
        deedsGoOn();
        othersGoOn();
        endsTooEarly();
        atLeastOneStatement();
        hundredElements();
        numbersOutOfRange();
        noRoom();
        marksThatAreSo();
        firstStatementIsTold();
        signsGoAheadOfMeaning();
        oneBehindTheOther();
        withFaultNothingComes();
        textStays();
        refusals();
        Due.end();
    }

    private static int read(String text) {
        return Due.read(new BackwardYears(), text);
    }

    private static void fault(String text, int due) {
        Due.is(2, "town of " + text, read(text), due);
    }

    /**
     * "kind 1 the place of the first byte with which no TOWN can go on": behind a beginning, each of the 256 bytes but
     * those allowed. With one allowed the text ends too early, or (behind the last sign, ;) is whole.
     */
    private static void goOn(String beginning, String allowed) {
        int size = beginning.length();
        for (int b = -128; b < 128; b++) {
            BackwardYears x = new BackwardYears();
            Due.text(x, 0, beginning + "?");
            x.put(0, size, b);
            int due = b < 0 || allowed.indexOf(b) < 0 ? -1000 - size : b == ';' ? 1 : -1000 - (size + 1);
            Due.is(2, "town of " + beginning + " and byte " + b, x.town(0), due);
        }
    }

    /** "d, KIND (a digit), NEEDS (letters a .. j, rising, perhaps none), a blank, MAKES (a letter), PAYS (..), .." */
    private static void deedsGoOn() {
        goOn("", STATEMENT_LETTERS);
        goOn("d", DIGITS);
        goOn("d0", LETTERS + " ");
        goOn("d9", LETTERS + " ");
        goOn("d0a", "bcdefghij ");
        goOn("d0e", "fghij ");
        goOn("d0ac", "defghij ");
        goOn("d0i", "j ");
        goOn("d0j", " ");
        goOn("d0abcdefghij", " ");
        goOn("d0 ", LETTERS);
        goOn("d0 a", DIGITS);
        goOn("d0 j", DIGITS);
        goOn("d0 a0", " ");
        goOn("d0 a1", DIGITS + " ");
        goOn("d0 a9", DIGITS + " ");
        goOn("d0 a10", " ");
        goOn("d0 a99", " ");
        goOn("d0 a0 ", DIGITS);
        goOn("d0 a99 ", DIGITS);
        goOn("d0 a0 0", ";");
        goOn("d0 a0 9", ";");
    }

    /** "m and a MARK ..; c, COINS; n, NAIL, a blank, + or -, RISE (a digit); l, LAW (a digit)", "with ; behind". */
    private static void othersGoOn() {
        goOn("m", LETTERS);
        goOn("mj", ";");
        goOn("c", DIGITS);
        goOn("c0", ";");
        goOn("c1", DIGITS + ";");
        goOn("c12", DIGITS + ";");
        goOn("c123", DIGITS + ";");
        goOn("c1000", ";");
        goOn("c9999", ";");
        goOn("n", DIGITS);
        goOn("n0", " ");
        goOn("n1", DIGITS + " ");
        goOn("n10", " ");
        goOn("n99", " ");
        goOn("n0 ", "+-");
        goOn("n10 ", "+-");
        goOn("n10 +", DIGITS);
        goOn("n10 -", DIGITS);
        goOn("n10 +0", ";");
        goOn("n10 -9", ";");
        goOn("l", DIGITS);
        goOn("l0", ";");
        goOn("l2", ";");
        goOn("l0;", STATEMENT_LETTERS);
        goOn("d0 a0 0;", STATEMENT_LETTERS);
    }

    /** "(the size, if it ends too early)": each beginning of a text, from none to all hundred elements. */
    private static void endsTooEarly() {
        int statements = 0;
        for (int size = 1; size <= HUNDRED.length(); size++) {
            boolean whole = HUNDRED.charAt(size - 1) == ';';
            statements += whole ? 1 : 0;
            fault(HUNDRED.substring(0, size), whole ? statements : -1000 - size);
        }
        // The row goes on behind the text, but with no sign.
        BackwardYears x = new BackwardYears();
        x.row(0, Due.BYTES, 100);
        Due.is(2, "a row of 0 alone", x.town(0), -1000);
        x.put(0, 0, 'l');
        x.put(0, 1, '1');
        x.put(0, 2, ';');
        Due.is(2, "a text with bytes of 0 behind it", x.town(0), -1003);
    }

    /** "At least one STATEMENT." */
    private static void atLeastOneStatement() {
        fault("", -1000);
        fault(";", -1000);
        fault("l0;", 1);
        fault("l0;;", -1003);
    }

    /** "0 .. 100 elements": a text as long as a row can be, and what comes of it. */
    private static void hundredElements() {
        Due.is(2, "the text's own size", HUNDRED.length(), 100);
        BackwardYears x = new BackwardYears();
        Due.is(2, "all hundred elements", Due.read(x, HUNDRED), 15);
        Due.is(2, "coins", x.state(0), 1234);
        Due.is(2, "law", x.state(2), 0);
        Due.is(2, "nail", x.state(3), 0);
        Due.is(2, "rise", x.rise(), 0);
        Due.is(2, "marks", x.marks(), 1 << 1 | 1 << 9);
        Due.is(2, "deeds", x.count(0), 5);
        Due.is(2, "the first deed's needs", x.deed(0, 1), 1023);
        Due.is(2, "the third deed's needs", x.deed(2, 1), 1 << 8 | 1 << 9);
        Due.is(2, "the last deed's pays", x.deed(4, 3), 7);
        String laws = "l0;l1;l2;l0;l1;l2;l0;l1;l2;l0;l1;l2;l0;l1;l2;l0;l1;l2;l0;l1;l2;l0;l1;l2;l0;l1;l2;l0;l1;l2;";
        fault(laws + "c10;l0;l1;", 33);
        fault(laws + "c10;l0;l1:", -1099);
        fault(laws + "c100;l0;l1", -1100);
        fault(laws + "c10;l0;l3;", -2097);
    }

    /** "kind 2 the place of the letter of the first STATEMENT that isn't as told (a number out of range ..)". */
    private static void numbersOutOfRange() {
        for (int digit = 0; digit < 10; digit++) {
            fault("l" + digit + ";", digit <= 2 ? 1 : -2000);
            fault("ma;l" + digit + ";", digit <= 2 ? 2 : -2003);
            fault("d" + digit + " a0 0;", digit <= 7 ? 1 : -2000);
            fault("c9999;d" + digit + "j j99 9;", digit <= 7 ? 2 : -2006);
        }
        BackwardYears x = new BackwardYears();
        for (int kind = 0; kind < 8; kind++) {
            Due.is(2, "kind " + kind, Due.read(x, "d" + kind + " a0 0;"), 1);
            Due.is(2, "kind " + kind, x.deed(kind, 0), kind);
        }
        // Of the other numbers each one that can be written is in range.
        read(x, "c0;", 0, 0);
        read(x, "c9999;", 0, 9999);
        read(x, "n0 +0;", 3, 0);
        read(x, "n99 +0;", 3, 99);
        Due.read(x, "n0 -9;");
        Due.is(2, "rise -9", x.rise(), -9);
        Due.read(x, "n0 -0;");
        Due.is(2, "rise -0", x.rise(), 0);
        Due.read(x, "n0 +9;");
        Due.is(2, "rise +9", x.rise(), 9);
    }

    private static void read(BackwardYears x, String text, int what, int due) {
        Due.is(2, "town of " + text, Due.read(x, text), 1);
        Due.is(2, "state(" + what + ") behind " + text, x.state(what), due);
    }

    /** "(.., no room; ..)": DEEDS 0 .. 7. */
    private static void noRoom() {
        fault(EIGHT_DEEDS, 8);
        fault(EIGHT_DEEDS + "l1;c5;", 10);
        fault(EIGHT_DEEDS + "d0 a0 0;", -2064);
        fault(EIGHT_DEEDS + "l1;d7j j99 9;", -2067);
        BackwardYears x = Due.town(EIGHT_DEEDS.substring(8));
        Due.is(2, "two more than seven", Due.read(x, "l1;d0 a0 0;d0 b0 0;"), -2011);
        Due.is(2, "then nothing comes", x.count(0), 7);
        Due.is(2, "the eighth", Due.read(x, "l1;d4j b9 6;"), 2);
        Due.is(2, "eight", x.count(0), 8);
        Due.is(2, "the eighth's kind", x.deed(7, 0), 4);
        Due.is(2, "no room for a ninth", Due.read(x, "d0 a0 0;"), -2000);
        Due.is(2, "all but a deed still comes", Due.read(x, "l2;ma;"), 2);
        // What THE IMAGE gives back is room again.
        BackwardYears y = new BackwardYears();
        y.image();
        Due.read(y, EIGHT_DEEDS);
        y.restore();
        Due.is(2, "eight more", Due.read(y, EIGHT_DEEDS), 8);
    }

    /** "(..; m: a MARK that is so)". */
    private static void marksThatAreSo() {
        for (char mark = 'a'; mark <= 'j'; mark++) {
            BackwardYears x = new BackwardYears();
            Due.is(2, "m" + mark, Due.read(x, "m" + mark + ";"), 1);
            Due.is(2, "marks", x.marks(), 1 << mark - 'a');
            Due.is(2, "m" + mark + " again", Due.read(x, "m" + mark + ";"), -2000);
            fault("m" + mark + ";m" + mark + ";", -2003);
        }
        BackwardYears x = Due.town("d0 a0 0;d6 a0 0;");
        Due.list(x, 1, 0);
        x.even(1);
        Due.is(2, "a mark that a deed made so", Due.read(x, "ma;"), -2000);
        Due.list(x, 1, 1);
        x.even(1);
        Due.is(2, "a mark that is pulled", Due.read(x, "ma;"), 1);
        BackwardYears y = new BackwardYears();
        y.image();
        Due.read(y, "ma;");
        y.restore();
        Due.is(2, "a mark that isn't so in the image", Due.read(y, "ma;"), 1);
    }

    /** "the first that can't be done so is told". */
    private static void firstStatementIsTold() {
        fault("ma;l3;l9;", -2003);
        fault("ma;ma;l3;", -2003);
        fault("l3;ma;ma;", -2000);
        fault("c10;d8 a1 1;d9 b1 1;l5;", -2004);
        fault(EIGHT_DEEDS + "ma;ma;d0 a0 0;", -2067);
        fault(EIGHT_DEEDS + "d8 a0 0;ma;ma;", -2064);
    }

    /** "kind 1 (of any place) goes ahead of kind 2". */
    private static void signsGoAheadOfMeaning() {
        fault("l3;l4;!", -1006);
        fault("l3;", -2000);
        fault("l3", -1002);
        fault("l3;m", -1004);
        fault("ma;ma;c00;", -1008);
        fault("d9 a0 0;n1 +10;", -1013);
        fault(EIGHT_DEEDS + "d0 a0 0;k", -1072);
    }

    /** "STATEMENTS are tried one behind the other, each on what those ahead of it made". */
    private static void oneBehindTheOther() {
        BackwardYears x = Due.town("l2;l1;c1;c22;n1 +1;n22 -2;d1 a1 1;d2b c2 2;");
        Due.is(2, "law", x.state(2), 1);
        Due.is(2, "coins", x.state(0), 22);
        Due.is(2, "nail", x.state(3), 22);
        Due.is(2, "rise", x.rise(), -2);
        Due.is(2, "the first deed", x.deed(0, 0), 1);
        Due.is(2, "the second deed", x.deed(1, 0), 2);
        Due.is(2, "the deeds of a later text are behind them", Due.read(x, "d3 a1 1;"), 1);
        Due.is(2, "the third deed", x.deed(2, 0), 3);
    }

    /** "Without FAULT all of it comes; with one nothing." */
    private static void withFaultNothingComes() {
        String all = "mb;c5;n1 +1;l1;d0 a0 0;";
        String[] behind = {"", "?", "m", "l3;", "mb;", "d8 a0 0;", "ma;"};
        int[] due = {5, -1023, -1024, -2023, -2023, -2023, -2023};
        for (int i = 0; i < behind.length; i++) {
            BackwardYears x = Due.town("ma;d3 d1 1;c7;n2 -3;l2;");
            BackwardYears untouched = Due.town("ma;d3 d1 1;c7;n2 -3;l2;");
            x.image();
            untouched.image();
            Due.text(untouched, 0, all + behind[i]);
            Due.is(2, "town of " + all + behind[i], Due.read(x, all + behind[i]), due[i]);
            boolean same = Whole.of(x).equals(Whole.of(untouched));
            Due.is(2, "nothing comes of " + all + behind[i], same ? 1 : 0, due[i] < 0 ? 1 : 0);
        }
    }

    /** "The ROW that is read .. stay[s] there". */
    private static void textStays() {
        BackwardYears x = new BackwardYears();
        Due.read(x, HUNDRED);
        for (int i = 0; i < 100; i++) {
            Due.is(2, "element " + i + " stays", x.element(0, i), HUNDRED.charAt(i));
        }
        BackwardYears y = new BackwardYears();
        Due.read(y, "l1;?");
        Due.is(2, "it stays with a fault", y.element(0, 3), '?');
        Due.read(y, "d0 a0 0;");
        Due.is(2, "it is read again", y.town(0), 1);
        Due.is(2, "two deeds", y.count(0), 2);
        // From each shelf, and of what is put in the lowest bits.
        for (int d = 0; d < 8; d++) {
            BackwardYears z = new BackwardYears();
            Due.row(z, d, Due.BYTES, 'l' + 256, '1' - 256, ';' + 65536);
            Due.is(2, "shelf " + d, z.town(d), 1);
            Due.is(2, "law", z.state(2), 1);
        }
    }

    /** "-1, -11, -12 (no ROW of bytes)." */
    private static void refusals() {
        BackwardYears x = Due.town("d0 a0 0;");
        for (int d : new int[] {Integer.MIN_VALUE, -1, 8, Integer.MAX_VALUE}) {
            Due.is(2, "town(" + d + ")", x.town(d), -1);
        }
        x.keep(0, 0, 0);
        for (int d = 0; d < 8; d++) {
            Due.is(2, "nothing in shelf " + d, x.town(d), -11);
        }
        x.keep(1, 1, 0);
        Due.is(2, "a deed", x.town(1), -12);
        Due.row(x, 1, Due.SHORTS, 'l', '1', ';');
        Due.is(2, "shorts", x.town(1), -12);
        Due.row(x, 1, Due.INTS, 'l', '1', ';');
        Due.is(2, "ints", x.town(1), -12);
        x.row(1, Due.SHORTS, 0);
        Due.is(2, "an empty row of shorts", x.town(1), -12);
        x.row(1, Due.BYTES, 0);
        Due.is(2, "an empty row of bytes", x.town(1), -1000);
    }
}
