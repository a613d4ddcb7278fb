/** What the tests share: answers that are due, rows and texts put on shelves. */
final class Due {
    static final int BYTES = 0;
    static final int SHORTS = 1;
    static final int INTS = 2;

    private static int asked = 0;
    private static int wrong = 0;

    private Due() {
    }

    static void is(int promise, String call, long got, long want) {
        asked++;
        if (got != want) {
            wrong++;
            System.out.println("promise " + promise + ": " + call + " answered " + got + ", due is " + want);
        }
    }

    /** A new object with a town. */
    static BackwardYears town(String text) {
        BackwardYears x = new BackwardYears();
        int answer = read(x, text);
        if (answer <= 0) {
            is(2, "town of " + text, answer, 1);
        }
        return x;
    }

    /** The answer of town to a text in SHELF 0. */
    static int read(BackwardYears x, String text) {
        text(x, 0, text);
        return x.town(0);
    }

    static void text(BackwardYears x, int d, String text) {
        x.row(d, BYTES, text.length());
        for (int i = 0; i < text.length(); i++) {
            x.put(d, i, text.charAt(i));
        }
    }

    static void row(BackwardYears x, int d, int sort, int... values) {
        x.row(d, sort, values.length);
        for (int i = 0; i < values.length; i++) {
            x.put(d, i, values[i]);
        }
    }

    static void list(BackwardYears x, int d, int... deeds) {
        row(x, d, BYTES, deeds);
    }

    /** The refusals of a call that takes a LIST in SHELF d; x has less than 8 DEEDS. */
    static void listRefusals(int promise, String call, BackwardYears x, java.util.function.IntUnaryOperator of) {
        is(promise, call + ", shelf -1", of.applyAsInt(-1), -1);
        is(promise, call + ", shelf 8", of.applyAsInt(8), -1);
        x.keep(7, 0, 0);
        is(promise, call + ", nothing held", of.applyAsInt(7), -11);
        x.keep(7, 1, 0);
        is(promise, call + ", a deed held", of.applyAsInt(7), -12);
        row(x, 7, SHORTS, 0);
        is(promise, call + ", a row of shorts", of.applyAsInt(7), -12);
        row(x, 7, INTS);
        is(promise, call + ", a row of ints", of.applyAsInt(7), -12);
        list(x, 7, 0, 0, 0, 0, 0, 0, 0, 0, 0);
        is(promise, call + ", nine places", of.applyAsInt(7), -13);
        list(x, 7, 0, x.count(0));
        is(promise, call + ", no such deed", of.applyAsInt(7), -13);
        list(x, 7, -1);
        is(promise, call + ", a deed below 0", of.applyAsInt(7), -13);
    }

    static void end() {
        System.out.println(asked + " answers asked, " + wrong + " not as due");
        if (wrong != 0) {
            System.exit(1);
        }
    }
}
