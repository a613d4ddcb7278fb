import java.util.Random;

/** Promises 1 to 34 together: runs of 512 calls by fixed seeds, each answer held against PlainTown's. */
public final class RandomRunsTest {
    private static final int RUNS = 1500;
    /** An object is used for 512 calls at most; the dearest thing asked of it here takes less than 150. */
    private static final int CALLS = 512 - 150;
    private static final int[] EDGES = {Integer.MIN_VALUE, -1, 0, 1, 100, 101, 255, 256, 1023, 1024, Integer.MAX_VALUE};

    private final Random random;
    private final BackwardYears x = new BackwardYears();
    private final PlainTown plain = new PlainTown();
    private int calls = 0;
    private int plans = 0;

    private RandomRunsTest(int seed) {
        random = new Random(seed);
    }

    public static void main(String[] args) {
        for (int seed = 0; seed < RUNS; seed++) {
            new RandomRunsTest(seed).run("run " + seed);
        }
        Due.end();
    }

    private void run(String name) {
        town(name);
        while (calls < CALLS) {
            if (random.nextInt(12) == 0) {
                town(name);
            } else if (random.nextInt(5) == 0) {
                list(name);
            } else {
                ask(name);
            }
        }
    }

    /** One call's answer. */
    private void is(int promise, String call, long got, long want) {
        calls++;
        Due.is(promise, call, got, want);
    }

    /** Mostly a number from 0 below n, now and then one that isn't. */
    private int some(int n) {
        int kind = random.nextInt(40);
        return kind == 0 ? EDGES[random.nextInt(EDGES.length)] : kind == 1 ? n : kind == 2 ? -1 : random.nextInt(n);
    }

    /** Mostly a SHELF that holds a LIST. */
    private int shelf() {
        return random.nextInt(10) == 0 ? some(8) : 1 + random.nextInt(3);
    }

    private int letters(StringBuilder text) {
        int from = text.length();
        for (char c = 'a'; c <= 'j'; c++) {
            if (random.nextInt(12) == 0) {
                text.append(c);
            }
        }
        return from;
    }

    private char letter() {
        return (char) ('a' + random.nextInt(random.nextInt(3) == 0 ? 10 : 5));
    }

    private String statement() {
        StringBuilder text = new StringBuilder();
        switch (random.nextInt(12)) {
            case 0:
                return text.append('m').append(letter()).append(';').toString();
            case 1:
                return text.append('c').append(random.nextInt(random.nextBoolean() ? 200 : 10000)).append(';').toString();
            case 2:
                return text.append('n').append(random.nextInt(random.nextBoolean() ? 12 : 100)).append(' ')
                        .append(random.nextBoolean() ? '+' : '-').append(random.nextInt(10)).append(';').toString();
            case 3:
                return text.append('l').append(random.nextInt(random.nextInt(5) == 0 ? 10 : 3)).append(';').toString();
            default:
                text.append('d').append(random.nextInt(random.nextInt(20) == 0 ? 10 : 8));
                letters(text);
                return text.append(' ').append(letter()).append(random.nextInt(random.nextBoolean() ? 15 : 100))
                        .append(' ').append(random.nextInt(10)).append(';').toString();
        }
    }

    private void town(String name) {
        StringBuilder text = new StringBuilder();
        int statements = random.nextInt(9);
        for (int i = 0; i < statements; i++) {
            text.append(statement());
        }
        if (random.nextInt(3) == 0 && text.length() > 0) {
            int place = random.nextInt(text.length());
            switch (random.nextInt(3)) {
                case 0:
                    text.setLength(place);
                    break;
                case 1:
                    text.setCharAt(place, "adk019 +-;mcnl\u00ff".charAt(random.nextInt(15)));
                    break;
                default:
                    text.insert(place, "adk019 +-;mcnl\u00ff".charAt(random.nextInt(15)));
            }
        }
        int size = Math.min(100, text.length());
        is(29, name + " row", x.row(0, 0, size), plain.row(0, 0, size));
        for (int i = 0; i < size; i++) {
            is(30, name + " put", x.put(0, i, text.charAt(i)), plain.put(0, i, text.charAt(i)));
        }
        is(2, name + " town of " + text, x.town(0), plain.town(0));
        same(name);
    }

    private void list(String name) {
        int d = 1 + random.nextInt(3);
        int size = random.nextInt(random.nextInt(4) == 0 ? 10 : 6);
        is(29, name + " row", x.row(d, 0, size), plain.row(d, 0, size));
        for (int i = 0; i < size; i++) {
            int deed = random.nextInt(60) == 0 ? some(8) : random.nextInt(Math.max(1, plain.now.deeds().size()));
            is(30, name + " put", x.put(d, i, deed), plain.put(d, i, deed));
        }
    }

    /** What there is, whatever the call was. */
    private void same(String name) {
        is(4, name + " marks()", x.marks(), PlainTown.bits(plain.now.so()));
        is(6, name + " rise()", x.rise(), plain.now.rise());
        for (int what = -1; what < 5; what++) {
            is(5, name + " state(" + what + ")", x.state(what), plain.state(what));
        }
    }

    private void ask(String name) {
        int d = shelf();
        int e = shelf();
        int nails = some(256);
        int marks = random.nextInt(5) == 0 ? some(1024) : 1 << random.nextInt(6) | 1 << random.nextInt(6);
        int n = some(100);
        int call = random.nextInt(30);
        String told = name + " call " + call + " (" + d + ", " + e + ", " + nails + ", " + marks + ", " + n + ")";
        if (call < 10) {
            years(told, call, d, nails);
        } else if (call < 20) {
            plans(told, call, d, e, nails, marks);
        } else {
            shelves(told, call, d, e, n);
        }
        same(told);
    }

    private void years(String told, int call, int d, int nails) {
        int k = some(8);
        int what = some(4);
        switch (call) {
            case 0 -> is(3, told, x.deed(k, what * 2 + k % 2), plain.deed(k, what * 2 + k % 2));
            case 1 -> {
                int n = some(what == 0 ? 3 : what == 1 ? 100 : 10000);
                is(7, told, x.set(what, n), plain.set(what, n));
            }
            case 2 -> is(8, told, x.may(k), plain.may(k));
            case 3 -> is(9, told, x.pair(d, nails), plain.pair(d, nails));
            case 4 -> is(10, told, x.even(d), plain.even(d));
            case 5 -> is(11, told, x.lasts(d, nails, k), plain.lasts(d, nails, k));
            case 6, 7 -> is(12, told, x.why(d, nails, k), plain.why(d, nails, k));
            default -> is(13, told, x.behind(d, nails, what), plain.behind(d, nails, what));
        }
    }

    private void plans(String told, int call, int d, int e, int nails, int marks) {
        int what = some(3);
        switch (call) {
            case 10 -> is(14, told, x.least(d, marks, what), plain.least(d, marks, what));
            case 11 -> is(15, told, x.free(d, marks, what), plain.free(d, marks, what));
            case 12 -> plan(told);
            case 13 -> {
                is(17, told, x.ever(), plain.ever());
                is(18, told, x.help(), plain.help());
            }
            case 14 -> {
                int others = some(256);
                is(19, told, x.two(d, e, nails, others, what), plain.two(d, e, nails, others, what));
            }
            case 15 -> {
                int place = some(8);
                is(20, told, x.month(), plain.month());
                is(21, told, x.nail(place), plain.nail(place));
            }
            case 16 -> is(22, told, x.byLaw(what, d, nails), plain.byLaw(what, d, nails));
            case 17 -> {
                int n = some(31);
                int z = random.nextInt();
                is(23, told, x.seeded(n, z, what), plain.seeded(n, z, what));
            }
            default -> judge(told, d, nails);
        }
    }

    /** What is told is right in most places. */
    private void judge(String told, int d, int nails) {
        int e = some(8);
        int sort = random.nextInt(3);
        int size = random.nextInt(8);
        if (random.nextInt(4) != 0) {
            e = 5;
            is(29, told, x.row(5, sort, size), plain.row(5, sort, size));
            for (int i = 0; i < size; i++) {
                long right = random.nextInt(3) == 0 ? Integer.MIN_VALUE >> (sort == 0 ? 24 : sort == 1 ? 16 : 0)
                        : PlainTown.bits(plain.now.so()) | (i > 1 ? random.nextInt(4) : 0);
                is(30, told, x.put(5, i, (int) right), plain.put(5, i, (int) right));
            }
            for (int i = 0; i < size; i++) {
                int wrong = plain.judge(d, nails, 5);
                is(24, told, x.judge(d, nails, 5), wrong);
                if (wrong < 0) {
                    break;
                }
                int right = random.nextInt(1024) & 31;
                is(30, told, x.put(5, wrong, right), plain.put(5, wrong, right));
            }
        }
        is(24, told, x.judge(d, nails, e), plain.judge(d, nails, e));
    }

    private void plan(String told) {
        plans++;
        int sort = random.nextInt(3);
        int size = random.nextInt(10) == 0 ? some(12) : 10;
        is(29, told, x.row(6, sort, size), plain.row(6, sort, size));
        for (int i = 0; i < size && i < 12; i++) {
            int worth = random.nextInt(4) == 0 ? 0
                    : random.nextInt(80) == 0 ? random.nextInt(2100) - 1050 : random.nextInt(40) - 12;
            is(30, told, x.put(6, i, worth), plain.put(6, i, worth));
        }
        int d = random.nextInt(10) == 0 ? some(8) : 6;
        // Two pairs take the plain way long; a few towns of all runs are enough.
        int n = plans == 1 && plain.now.deeds().size() < 6 ? 2 : random.nextInt(12) == 0 ? 3 : 1;
        is(16, told, x.plan(n, d, 0), plain.plan(n, d, 0));
        is(16, told, x.plan(n, d, 1), plain.plan(n, d, 1));
    }

    private static long element(BackwardYears x, int d, int i) {
        try {
            return x.element(d, i);
        } catch (IllegalArgumentException e) {
            return Long.MAX_VALUE;
        } catch (IllegalStateException e) {
            return Long.MIN_VALUE;
        }
    }

    private void shelves(String told, int call, int d, int e, int n) {
        int what = some(6);
        switch (call) {
            case 20 -> is(25, told, x.image(), plain.image());
            case 21 -> is(26, told, x.restore(), plain.restore());
            case 22 -> is(27, told, x.count(what), plain.count(what));
            case 23 -> {
                int k = some(8);
                int kind = some(2);
                is(28, told, x.keep(k, kind, what), plain.keep(k, kind, what));
            }
            case 24 -> {
                int k = some(8);
                int sort = some(3);
                is(29, told, x.row(k, sort, n), plain.row(k, sort, n));
            }
            case 25 -> {
                int k = some(8);
                is(30, told, x.put(k, what, n * 777), plain.put(k, what, n * 777));
            }
            case 26 -> {
                int k = some(8);
                int f = random.nextInt(3) == 0 ? k : some(8);
                int i = some(5);
                int j = some(5);
                is(32, told, x.copy(k, i, f, j, what), plain.copy(k, i, f, j, what));
            }
            case 27 -> {
                int k = some(8);
                is(33, told, x.care(k), plain.care(k));
            }
            case 28 -> {
                int k = some(8);
                is(34, told, x.toss(k), plain.toss(k));
            }
            default -> {
                for (int k = -1; k < 9; k++) {
                    for (int i = -1; i < 12; i++) {
                        is(31, told, element(x, k, i), plain.element(k, i));
                    }
                }
            }
        }
    }
}
