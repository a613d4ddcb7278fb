import java.util.ArrayList;
import java.util.Arrays;
import java.util.List;

/**
 * "Answers of several refusals are the first one as they are told at the call"; "A refused call changes nothing": of
 * each call all ways in which its arguments can be wrong, each with each, and behind them the object against one that
 * was not called.
 */
public final class RefusalsTest {
    private static final int LEAST = Integer.MIN_VALUE;
    private static final int MOST = Integer.MAX_VALUE;
    private static final int FAR = -1000000000;
    /** To look at all of an object takes some 250 of its 512 calls. */
    private static final int CALLS = 100;

    // What the shelves of an object hold here.
    private static final int LIST = 0;
    private static final int NOTHING = 1;
    private static final int DEED = 2;
    private static final int SHORTS = 3;
    private static final int WORTHS = 4;
    private static final int NINE = 5;
    private static final int NO_DEED = 6;
    private static final int SIX = 7;

    private static final Given NO_SHELVES = new Given().refused(-1, LEAST, -1, 8, MOST);
    private static final Given LISTS_OF_THREE = NO_SHELVES.taken(LIST).refused(-11, NOTHING)
            .refused(-12, DEED, SHORTS, WORTHS).refused(-13, NINE, NO_DEED);
    private static final Given LISTS = LISTS_OF_THREE.taken(SIX);
    private static final Given LISTS_OF_FIVE = LISTS_OF_THREE.refused(-13, SIX);
    private static final Given ROWS = NO_SHELVES.taken(LIST, SHORTS, WORTHS, NINE, NO_DEED, SIX).refused(-11, NOTHING)
            .refused(-12, DEED);
    private static final Given DEEDS_HELD = NO_SHELVES.taken(DEED).refused(-11, NOTHING)
            .refused(-12, LIST, SHORTS, WORTHS, NINE, NO_DEED, SIX);
    private static final Given NAILS = range(0, 255);

    /** A call with its arguments. */
    private interface Call {
        int of(BackwardYears x, int... a);
    }

    /** Values of an argument, and with what each is refused (0: it is not). */
    private static final class Given {
        final List<int[]> values = new ArrayList<>();

        Given taken(int... more) {
            return refused(0, more);
        }

        Given refused(int with, int... more) {
            Given all = new Given();
            all.values.addAll(values);
            for (int value : more) {
                all.values.add(new int[] {value, with});
            }
            return all;
        }
    }

    private static Given range(int least, int most) {
        return new Given().taken(least, most).refused(-1, LEAST, least - 1, most + 1, MOST);
    }

    public static void main(String[] args) {
        towns();
        years();
        plans();
        shelves();
        copies();
        Due.end();
    }

    /** An object with all that there can be: deeds, marks, an odd YEAR, an IMAGE that is another, all SHELVES. */
    private static BackwardYears made() {
        BackwardYears x = Due.town("d0 a5 1;d1a b2 2;d4 c0 5;mj;n7 -2;c90;");
        Due.list(x, LIST, 0, 1, 2);
        x.pair(LIST, 1);
        x.image();
        x.even(LIST);
        x.set(0, 1);
        x.keep(NOTHING, 0, 0);
        x.keep(DEED, 1, 1);
        Due.row(x, SHORTS, Due.SHORTS, 0, 300);
        Due.row(x, WORTHS, Due.INTS, 0, 1, 2, 3, 4, 5, 6, 7, 8, -999);
        Due.list(x, NINE, 0, 0, 0, 0, 0, 0, 0, 0, 0);
        Due.list(x, NO_DEED, 0, 3);
        Due.list(x, SIX, 0, 1, 2, 2, 1, 0);
        return x;
    }

    /** -1 of any argument goes ahead; then all refusals of the one argument ahead of those of the next. */
    private static int first(int[] refusals) {
        for (int refusal : refusals) {
            if (refusal == -1) {
                return -1;
            }
        }
        for (int refusal : refusals) {
            if (refusal != 0) {
                return refusal;
            }
        }
        return 0;
    }

    private static BackwardYears asked;
    private static int calls;

    private static void unchanged(int promise, String name) {
        boolean same = Whole.of(asked).equals(Whole.of(made()));
        Due.is(promise, name + " refused changes nothing", same ? 1 : 0, 1);
        asked = made();
        calls = 0;
    }

    /** All values of all arguments with each other, but those that are taken (a call that isn't refused). */
    private static void refused(int promise, String name, Call call, int less, Given... given) {
        asked = made();
        calls = 0;
        int many = 1;
        for (Given argument : given) {
            many *= argument.values.size();
        }
        for (int k = 0; k < many; k++) {
            int[] values = new int[given.length];
            int[] refusals = new int[given.length];
            int rest = k;
            for (int i = 0; i < given.length; i++) {
                int[] value = given[i].values.get(rest % given[i].values.size());
                rest /= given[i].values.size();
                values[i] = value[0];
                refusals[i] = value[1];
            }
            int due = first(refusals);
            if (due != 0) {
                Due.is(promise, name + Arrays.toString(values), call.of(asked, values), less + due);
                calls++;
            }
            if (calls == CALLS) {
                unchanged(promise, name);
            }
        }
        unchanged(promise, name);
    }

    private static void towns() {
        // Of a LIST as a text the FAULT is told: no STATEMENT begins so.
        Given texts = NO_SHELVES.refused(-11, NOTHING).refused(-12, DEED, SHORTS, WORTHS)
                .refused(-1000, LIST, NINE, NO_DEED, SIX);
        refused(2, "town", (x, a) -> x.town(a[0]), 0, texts);
        refused(3, "deed", (x, a) -> x.deed(a[0], a[1]), 0, range(0, 2), range(0, 7));
        refused(5, "state", (x, a) -> x.state(a[0]), 0, range(0, 3));
        refused(7, "set law", (x, a) -> x.set(0, a[0]), 0, range(0, 2));
        refused(7, "set nail", (x, a) -> x.set(1, a[0]), 0, range(0, 99));
        refused(7, "set coins", (x, a) -> x.set(2, a[0]), 0, range(0, 9999));
        refused(7, "set none", (x, a) -> x.set(a[0], a[1]), 0, new Given().refused(-1, LEAST, -1, 3, MOST),
                new Given().taken(0, 1, 2, LEAST, MOST));
        refused(8, "may", (x, a) -> x.may(a[0]), 0, range(0, 2));
    }

    private static void years() {
        Given places = new Given().taken(0, 2).refused(-13, LEAST, -1, 8, MOST);
        refused(9, "pair", (x, a) -> x.pair(a[0], a[1]), 0, LISTS, NAILS);
        refused(10, "even", (x, a) -> x.even(a[0]), 0, LISTS);
        refused(11, "lasts", (x, a) -> x.lasts(a[0], a[1], a[2]), 0, LISTS, NAILS, range(0, 9));
        refused(12, "why", (x, a) -> x.why(a[0], a[1], a[2]), 0, LISTS, NAILS, places);
        refused(12, "why of three", (x, a) -> x.why(a[0], a[1], a[2]), 0, LISTS_OF_THREE, NAILS,
                places.refused(-13, 3));
        refused(13, "behind", (x, a) -> x.behind(a[0], a[1], a[2]), 0, LISTS, NAILS, range(0, 3));
        refused(22, "byLaw", (x, a) -> x.byLaw(a[1], a[0], a[2]), 0, LISTS, range(0, 2), NAILS);
    }

    private static void plans() {
        Given marks = range(0, 1023);
        // a .. i can't all be so: then it is -4 behind all that is refused.
        Given allMarks = new Given().refused(-4, 1023).refused(-1, LEAST, -1, 1024, MOST);
        Given worths = NO_SHELVES.taken(WORTHS).refused(-11, NOTHING).refused(-12, DEED)
                .refused(-13, LIST, SHORTS, NINE, NO_DEED, SIX);
        refused(14, "least", (x, a) -> x.least(a[0], a[1], a[2]), 0, LISTS, marks, range(0, 2));
        refused(14, "least", (x, a) -> x.least(a[0], a[1], a[2]), 0, LISTS, allMarks, range(0, 2));
        refused(15, "free", (x, a) -> x.free(a[0], a[1], a[2]), 0, LISTS_OF_FIVE, marks, range(0, 1));
        refused(15, "free", (x, a) -> x.free(a[0], a[1], a[2]), 0, LISTS_OF_FIVE, allMarks, range(0, 1));
        refused(16, "plan", (x, a) -> x.plan(a[0], a[1], a[2]), FAR, range(1, 2), worths, range(0, 1));
        refused(19, "two", (x, a) -> x.two(a[0], a[1], a[2], a[3], a[4]), 0, LISTS, LISTS,
                new Given().taken(255).refused(-1, -1, 256), new Given().taken(255).refused(-1, -1, 256), range(0, 1));
        refused(21, "nail", (x, a) -> x.nail(a[0]), 0, range(0, 7));
        refused(23, "seeded", (x, a) -> x.seeded(a[0], a[1], a[2]), 0, range(1, 30), new Given().taken(LEAST, 0, MOST),
                range(0, 2));
        refused(24, "judge", (x, a) -> x.judge(a[0], a[1], a[2]), 0, LISTS, NAILS, ROWS);
    }

    private static void shelves() {
        Given sizes = new Given().taken(0, 100).refused(-1, 101, MOST).refused(-14, -1, LEAST);
        Given places = new Given().taken(0, 1).refused(-13, LEAST, -1, 100, MOST);
        refused(27, "count", (x, a) -> x.count(a[0]), 0, range(0, 5));
        refused(28, "keep nothing", (x, a) -> x.keep(a[0], 0, a[1]), 0, NO_SHELVES, new Given().taken(LEAST, 0, MOST));
        refused(28, "keep a deed", (x, a) -> x.keep(a[0], 1, a[1]), 0, NO_SHELVES.taken(0, 7), range(0, 2));
        refused(28, "keep another thing", (x, a) -> x.keep(a[0], a[1], a[2]), 0, NO_SHELVES.taken(0, 7),
                new Given().refused(-1, LEAST, -1, 2, MOST), range(0, 2));
        refused(29, "row", (x, a) -> x.row(a[0], a[1], a[2]), 0, NO_SHELVES.taken(0, 1, 2, 7), range(0, 2), sizes);
        refused(30, "put", (x, a) -> x.put(a[0], a[1], a[2]), 0, ROWS, places, new Given().taken(LEAST, 0, MOST));
        refused(30, "put beyond two", (x, a) -> x.put(a[0], 2, a[1]), 0, NO_SHELVES.refused(-13, SHORTS, NO_DEED),
                new Given().taken(1));
        refused(33, "care", (x, a) -> x.care(a[0]), 0, DEEDS_HELD);
        // RAISED with FIGURE 2: it has a FAILURE.
        refused(34, "toss", (x, a) -> x.toss(a[0]), 0, DEEDS_HELD);
        refused(31, "element", (x, a) -> element(x, a[0], a[1]), 0, ROWS, places);
    }

    /** No such SHELF as -1, nothing as -11, a DEED as -12, no such place as -13: all but the first are one. */
    private static int element(BackwardYears x, int d, int i) {
        try {
            return (int) x.element(d, i);
        } catch (IllegalArgumentException e) {
            return -1;
        } catch (IllegalStateException e) {
            return d == NOTHING ? -11 : d == DEED ? -12 : -13;
        }
    }

    /** "-1, -11 (either), -12 (no ROWS of one SORT), -13 (n below 0, too)": of both SHELVES together. */
    private static void copies() {
        int[] shelves = {LEAST, -1, LIST, NOTHING, DEED, SHORTS, WORTHS, NO_DEED, 8, MOST};
        int[] numbers = {LEAST, -1, 0, 2, 101, MOST};
        asked = made();
        calls = 0;
        for (int d : shelves) {
            for (int e : shelves) {
                for (int i : numbers) {
                    for (int j : numbers) {
                        for (int n : numbers) {
                            copyRefused(d, i, e, j, n);
                        }
                    }
                }
            }
        }
        unchanged(32, "copy");
    }

    private static void copyRefused(int d, int i, int e, int j, int n) {
        int due = copyRefusal(d, i, e, j, n);
        if (due == 0) {
            return;
        }
        Due.is(32, "copy" + Arrays.toString(new int[] {d, i, e, j, n}), asked.copy(d, i, e, j, n), due);
        calls++;
        if (calls == CALLS) {
            unchanged(32, "copy");
        }
    }

    private static int copyRefusal(int d, int i, int e, int j, int n) {
        // The sort of what each shelf holds, and its size; -1 where there is no row.
        int[] sorts = {0, -1, -1, 1, 2, 0, 0, 0};
        int[] sizes = {3, -1, -1, 2, 10, 9, 2, 6};
        if (d < 0 || d > 7 || e < 0 || e > 7) {
            return -1;
        }
        if (d == NOTHING || e == NOTHING) {
            return -11;
        }
        if (sorts[d] < 0 || sorts[d] != sorts[e]) {
            return -12;
        }
        boolean there = n >= 0 && i >= 0 && j >= 0 && (long) i + n <= sizes[d] && (long) j + n <= sizes[e];
        return there ? 0 : -13;
    }
}
