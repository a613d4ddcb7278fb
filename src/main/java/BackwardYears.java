/**
 * A town in which every second year goes backwards: what was done in an even year is undone in
 * the odd one behind it, last thing first, but what is nailed.
 */
public final class BackwardYears {
    private static final int SHELVES = 8;
    private static final int DEEDS = 8;
    private static final int MARKS = 10;
    private static final int ALL_MARKS = 1023;
    private static final int MOST_COINS = 9999;
    private static final int MOST_NAIL = 99;
    private static final int MOST_ELEMENTS = 100;
    private static final int MOST_PAIRS = 30;

    private static final int LIST_PLACES = 8;
    private static final int ALL_NAILS = 255;
    private static final int ORDER_PLACES = 5;
    /** 5! orders of five places. */
    private static final int ORDERS = 120;
    /** One LIST of no DEED, 8 of one with 2 sets of NAILS, 8 times 7 of two with 4. */
    private static final int MOVES = 241;
    private static final int NO_DEED_DIGIT = 9;
    private static final int MOST_WORTH = 999;
    private static final int ALL_BUT_SIGN = 2147483647;

    private static final int PLAIN = 0;
    private static final int RAISED = 1;
    private static final int SPENT = 2;
    private static final int LENT = 3;
    private static final int SAID = 4;
    private static final int BUILT = 5;
    private static final int PULLED = 6;
    private static final int SWORN = 7;

    private static final int LAWS = 3;
    private static final int FALL_LAW = 0;
    private static final int STAY_LAW = 1;

    private static final int NO_SUCH = -1;
    private static final int NOT_NOW = -3;
    private static final int NONE = -4;
    private static final int NOTHING_HELD = -11;
    private static final int OTHER_KIND = -12;
    private static final int NO_PLACE = -13;
    private static final int BAD_SIZE = -14;
    private static final int NO_FAILURE = -15;
    /** What lies between a refusal and an answer that may be below 0 itself. */
    private static final int FAR_BELOW = -1000000000;

    private final Town now = new Town();
    private final Town then = new Town();
    private final Town draft = new Town();
    private final Years years = new Years();
    private final Shelf[] shelves = new Shelf[SHELVES];
    private final int[] order = new int[ORDER_PLACES];
    private final int[] moves = new int[MOVES];
    private final int[] ends = new int[MOVES];
    private int moveCount;
    private boolean imageTaken;

    public BackwardYears() {
        for (int d = 0; d < shelves.length; d++) {
            shelves[d] = new Shelf();
        }
    }

    // ---- towns

    public int town(int d) {
        Shelf text = shelfAt(d);
        if (text == null) {
            return NO_SUCH;
        }
        int refusal = text.bytesRefusal();
        if (refusal != 0) {
            return refusal;
        }
        draft.become(now);
        int answer = draft.read(text);
        if (answer > 0) {
            now.become(draft);
        }
        return answer;
    }

    public int deed(int deed, int what) {
        Deed asked = now.deedAt(deed);
        if (asked == null) {
            return NO_SUCH;
        }
        switch (what) {
            case 0: return asked.kind;
            case 1: return asked.needs;
            case 2: return asked.makes;
            case 3: return asked.pays;
            case 4: return asked.figure;
            case 5: return asked.cost;
            case 6: return asked.back;
            case 7: return asked.keeps ? 1 : 0;
            default: return NO_SUCH;
        }
    }

    public int marks() {
        return now.marks;
    }

    public int state(int what) {
        switch (what) {
            case 0: return now.coins;
            case 1: return now.year;
            case 2: return now.law;
            case 3: return now.nail;
            default: return NO_SUCH;
        }
    }

    public int rise() {
        return now.rise;
    }

    public int set(int what, int n) {
        switch (what) {
            case 0: return now.changeLaw(n);
            case 1: return now.changeNail(n);
            case 2: return now.changeCoins(n);
            default: return NO_SUCH;
        }
    }

    public int may(int deed) {
        Deed asked = now.deedAt(deed);
        if (asked == null) {
            return NO_SUCH;
        }
        return asked.mayBeDone(now.marks, now.coins) ? 1 : 0;
    }

    // ---- years

    public int pair(int d, int nails) {
        int refusal = playList(d, nails);
        if (refusal != 0) {
            return refusal;
        }
        endYears(2);
        return Integer.bitCount(years.standing());
    }

    public int even(int d) {
        int refusal = takeList(d);
        if (refusal != 0) {
            return refusal;
        }
        years.begin(now.marks, now.coins);
        years.evenYear(0);
        endYears(1);
        return Integer.bitCount(years.done);
    }

    public int lasts(int d, int nails, int mark) {
        if (mark < 0 || mark >= MARKS) {
            return NO_SUCH;
        }
        int refusal = playList(d, nails);
        return refusal != 0 ? refusal : years.marks >> mark & 1;
    }

    public int why(int d, int nails, int place) {
        int refusal = playList(d, nails);
        if (refusal != 0) {
            return refusal;
        }
        return place < 0 || place >= years.size ? NO_PLACE : years.fate(place);
    }

    public int behind(int d, int nails, int what) {
        if (what < 0 || what > 3) {
            return NO_SUCH;
        }
        int refusal = playList(d, nails);
        if (refusal != 0) {
            return refusal;
        }
        switch (what) {
            case 0: return years.marks;
            case 1: return years.coins;
            case 2: return Integer.bitCount(years.undone);
            default: return years.paid;
        }
    }

    // ---- nails, orders, plans

    public int least(int d, int marks, int what) {
        if (!areMarks(marks) || what < 0 || what > 2) {
            return NO_SUCH;
        }
        int refusal = takeList(d);
        if (refusal != 0) {
            return refusal;
        }
        int nails = years.leastNails(marks);
        if (nails < 0) {
            return NONE;
        }
        if (what == 0) {
            return Integer.bitCount(nails);
        }
        if (what == 2) {
            return nails;
        }
        years.play(nails);
        return years.paid;
    }

    public int free(int d, int marks, int what) {
        if (!areMarks(marks) || what < 0 || what > 1) {
            return NO_SUCH;
        }
        int refusal = listRefusal(d);
        Shelf list = shelfAt(d);
        if (refusal != 0 || list == null) {
            return refusal;
        }
        return list.size > ORDER_PLACES ? NO_PLACE : freest(list, marks, what);
    }

    public int plan(int n, int d, int what) {
        Shelf worths = shelfAt(d);
        if (worths == null || n < 1 || n > 2 || what < 0 || what > 1) {
            return FAR_BELOW + NO_SUCH;
        }
        int refusal = worths.rowRefusal();
        if (refusal == 0 && !areWorths(worths)) {
            refusal = NO_PLACE;
        }
        if (refusal != 0) {
            return FAR_BELOW + refusal;
        }
        listMoves();
        int best = bestMove(n, worths);
        return what == 1 ? best : worthOfMove(best, n, worths);
    }

    public int ever() {
        int reached = now.marks;
        // Every round but the last brings a MARK more, so there are never more rounds than MARKS.
        for (int round = 0; round < MARKS; round++) {
            for (int i = 0; i < now.deedCount; i++) {
                Deed deed = now.deedAt(i);
                if (deed != null && deed.hasGround(reached)) {
                    reached |= deed.sets;
                }
            }
        }
        return reached;
    }

    public int help() {
        int helped = 0;
        for (int i = 0; i < now.deedCount; i++) {
            Deed deed = now.deedAt(i);
            if (deed != null && deed.mayBeDone(now.marks, now.coins)) {
                helped |= now.marks & deed.clears;
            }
        }
        return helped;
    }

    public int two(int d, int e, int nails, int others, int what) {
        Shelf list = shelfAt(d);
        Shelf other = shelfAt(e);
        // A SHELF that isn't there is told ahead of what either LIST is refused with.
        if (list == null || other == null || !areNails(nails) || !areNails(others) || what < 0 || what > 1) {
            return NO_SUCH;
        }
        int refusal = listRefusal(d);
        if (refusal == 0) {
            refusal = listRefusal(e);
        }
        if (refusal != 0) {
            return refusal;
        }
        int ones = playTwo(list, other, nails, others);
        return Integer.bitCount(years.standing() & (what == 0 ? ones : ~ones));
    }

    public int month() {
        int cheapest = 0;
        for (int place = 1; place < LIST_PLACES; place++) {
            if (now.nailCost(place) < now.nailCost(cheapest)) {
                cheapest = place;
            }
        }
        return cheapest;
    }

    public int nail(int place) {
        return place < 0 || place >= LIST_PLACES ? NO_SUCH : now.nailCost(place);
    }

    public int byLaw(int law, int d, int nails) {
        if (law < 0 || law >= LAWS || !areNails(nails)) {
            return NO_SUCH;
        }
        int refusal = takeList(d);
        if (refusal != 0) {
            return refusal;
        }
        years.law = law;
        years.play(nails);
        return Integer.bitCount(years.marks);
    }

    public int seeded(int n, int z, int what) {
        if (n < 1 || n > MOST_PAIRS || what < 0 || what > 2) {
            return NO_SUCH;
        }
        if (now.deedCount == 0) {
            return NOT_NOW;
        }
        int undone = playSeeds(n, z);
        return what == 0 ? years.marks : what == 1 ? years.coins : undone;
    }

    public int judge(int d, int nails, int e) {
        Shelf told = shelfAt(e);
        if (told == null || !areNails(nails)) {
            return NO_SUCH;
        }
        int refusal = takeList(d);
        if (refusal == 0) {
            refusal = told.rowRefusal();
        }
        return refusal != 0 ? refusal : firstWrong(told, nails);
    }

    // ---- the image, what is told

    public int image() {
        then.become(now);
        imageTaken = true;
        return now.year;
    }

    public int restore() {
        if (!imageTaken) {
            return NOT_NOW;
        }
        now.become(then);
        return now.year;
    }

    public int count(int what) {
        if (what == 0) {
            return now.deedCount;
        }
        if (what == 1) {
            return Integer.bitCount(now.marks);
        }
        if (what < 0 || what > 5) {
            return NO_SUCH;
        }
        int sum = 0;
        for (int i = 0; i < now.deedCount; i++) {
            sum += counted(now.deedAt(i), what);
        }
        return sum;
    }

    // ---- shelves

    public int keep(int d, int what, int k) {
        Shelf shelf = shelfAt(d);
        if (shelf == null || what < 0 || what > 1) {
            return NO_SUCH;
        }
        Deed kept = what == 1 ? now.deedAt(k) : null;
        if (what == 1 && kept == null) {
            return NO_SUCH;
        }
        shelf.hold(kept);
        return 0;
    }

    public int row(int d, int sort, int n) {
        Shelf shelf = shelfAt(d);
        if (shelf == null || sort < 0 || sort > Shelf.INTS || n > MOST_ELEMENTS) {
            return NO_SUCH;
        }
        if (n < 0) {
            return BAD_SIZE;
        }
        shelf.holdRow(sort, n);
        return 0;
    }

    public int put(int d, int i, int v) {
        Shelf shelf = shelfAt(d);
        if (shelf == null) {
            return NO_SUCH;
        }
        int refusal = shelf.rowRefusal();
        if (refusal != 0) {
            return refusal;
        }
        return shelf.write(i, v) ? 0 : NO_PLACE;
    }

    public long element(int d, int i) throws IllegalArgumentException, IllegalStateException {
        Shelf shelf = shelfAt(d);
        if (shelf == null) {
            throw new IllegalArgumentException("no such shelf");
        }
        if (shelf.rowRefusal() != 0 || !shelf.hasPlace(i)) {
            throw new IllegalStateException("no row, or no such place");
        }
        return shelf.read(i);
    }

    public int copy(int d, int i, int e, int j, int n) {
        Shelf from = shelfAt(d);
        Shelf to = shelfAt(e);
        if (from == null || to == null) {
            return NO_SUCH;
        }
        if (from.isEmpty() || to.isEmpty()) {
            return NOTHING_HELD;
        }
        if (from.rowRefusal() != 0 || to.rowRefusal() != 0 || from.sort != to.sort) {
            return OTHER_KIND;
        }
        if (!from.hasPlaces(i, n) || !to.hasPlaces(j, n)) {
            return NO_PLACE;
        }
        System.arraycopy(from.elements, i, to.elements, j, n);
        return n;
    }

    public int care(int d) {
        Shelf shelf = shelfAt(d);
        if (shelf == null) {
            return NO_SUCH;
        }
        Deed held = shelf.deed;
        return held == null ? shelf.deedRefusal() : held.care;
    }

    public int toss(int d) {
        Shelf shelf = shelfAt(d);
        if (shelf == null) {
            return NO_SUCH;
        }
        Deed held = shelf.deed;
        if (held == null) {
            return shelf.deedRefusal();
        }
        try {
            held.fail();
        } catch (IllegalStateException failure) {
            return held.failure;
        }
        return NO_FAILURE;
    }

    // ---- shelves, lists and sets as they are asked for

    private Shelf shelfAt(int d) {
        return d < 0 || d >= shelves.length ? null : shelves[d];
    }

    private int listRefusal(int d) {
        Shelf list = shelfAt(d);
        if (list == null) {
            return NO_SUCH;
        }
        int refusal = list.bytesRefusal();
        if (refusal != 0) {
            return refusal;
        }
        if (list.size > LIST_PLACES) {
            return NO_PLACE;
        }
        for (int i = 0; i < list.size; i++) {
            if (now.deedAt(list.read(i)) == null) {
                return NO_PLACE;
            }
        }
        return 0;
    }

    /** The LIST in SHELF d becomes that of the years in mind: 0, or its refusal. */
    private int takeList(int d) {
        int refusal = listRefusal(d);
        Shelf list = shelfAt(d);
        if (refusal != 0 || list == null) {
            return refusal;
        }
        years.open(now);
        for (int i = 0; i < list.size; i++) {
            years.add(now.deedAt(list.read(i)));
        }
        return 0;
    }

    /** A PAIR in mind by the LIST in SHELF d: 0, or what is refused. */
    private int playList(int d, int nails) {
        if (!areNails(nails)) {
            return NO_SUCH;
        }
        int refusal = takeList(d);
        if (refusal == 0) {
            years.play(nails);
        }
        return refusal;
    }

    /** What was in mind is so. */
    private void endYears(int passed) {
        now.marks = years.marks;
        now.coins = years.coins;
        now.year += passed;
    }

    private static boolean areNails(int nails) {
        return nails >= 0 && nails <= ALL_NAILS;
    }

    private static boolean areMarks(int marks) {
        return marks >= 0 && marks <= ALL_MARKS;
    }

    private int counted(Deed deed, int what) {
        if (deed == null) {
            return 0;
        }
        switch (what) {
            case 2: return deed.mayBeDone(now.marks, now.coins) ? 1 : 0;
            case 3: return deed.keeps ? 1 : 0;
            case 4: return deed.kind == PULLED ? 1 : 0;
            default: return deed.pays;
        }
    }

    // ---- orders of a list

    private int freest(Shelf list, int wanted, int what) {
        int fewest = NONE;
        int digits = NONE;
        for (int i = 0; i < order.length; i++) {
            order[i] = i;
        }
        boolean more = true;
        for (int n = 0; n < ORDERS && more; n++) {
            takeOrder(list);
            int nails = years.leastNails(wanted);
            if (nails >= 0 && (fewest < 0 || Integer.bitCount(nails) < fewest)) {
                fewest = Integer.bitCount(nails);
                digits = orderDigits(list.size);
            }
            more = nextOrder(list.size);
        }
        return what == 0 ? digits : fewest;
    }

    private void takeOrder(Shelf list) {
        years.open(now);
        for (int i = 0; i < list.size; i++) {
            years.add(now.deedAt(list.read(at(order, i))));
        }
    }

    private int orderDigits(int places) {
        int digits = 0;
        for (int i = places - 1; i >= 0; i--) {
            digits = 10 * digits + at(order, i);
        }
        return digits;
    }

    /** The next order by places; false if this was the last one. */
    private boolean nextOrder(int places) {
        int turn = places - 2;
        while (turn >= 0 && at(order, turn) > at(order, turn + 1)) {
            turn--;
        }
        if (turn < 0) {
            return false;
        }
        int greater = places - 1;
        while (greater > turn + 1 && at(order, greater) < at(order, turn)) {
            greater--;
        }
        swapPlaces(turn, greater);
        for (int i = turn + 1, j = places - 1; i < j; i++, j--) {
            swapPlaces(i, j);
        }
        return true;
    }

    private void swapPlaces(int i, int j) {
        int first = at(order, i);
        store(order, i, at(order, j));
        store(order, j, first);
    }

    // ---- the best plan

    private static boolean areWorths(Shelf worths) {
        if (worths.size != MARKS) {
            return false;
        }
        for (int i = 0; i < MARKS; i++) {
            int worth = worths.read(i);
            if (worth < -MOST_WORTH || worth > MOST_WORTH) {
                return false;
            }
        }
        return true;
    }

    /** All first LISTS with their NAILS, in the order in which the first of several is told. */
    private void listMoves() {
        moveCount = 0;
        addMoves(NO_DEED_DIGIT, NO_DEED_DIGIT, 1);
        for (int first = 0; first < now.deedCount; first++) {
            addMoves(first, NO_DEED_DIGIT, 2);
        }
        for (int first = 0; first < now.deedCount; first++) {
            for (int second = 0; second < now.deedCount; second++) {
                if (second != first) {
                    addMoves(first, second, 4);
                }
            }
        }
    }

    private void addMoves(int first, int second, int sets) {
        for (int nails = 0; nails < sets; nails++) {
            store(moves, moveCount, 100 * nails + 10 * first + second);
            moveCount++;
        }
    }

    /** The first of the best moves (a first LIST with its NAILS) with which n PAIRS begin. */
    private int bestMove(int pairs, Shelf worths) {
        int best = at(moves, 0);
        int most = worthOfMove(best, pairs, worths);
        for (int i = 0; i < moveCount; i++) {
            int move = at(moves, i);
            playMove(move, now.marks, now.coins);
            store(ends, i, (MOST_COINS + 1) * years.marks + years.coins);
            // A move that ends as an earlier one does can't be better than that.
            if (endedSoBefore(i)) {
                continue;
            }
            int worth = worthOfMove(move, pairs, worths);
            if (worth > most) {
                best = move;
                most = worth;
            }
        }
        return best;
    }

    private boolean endedSoBefore(int move) {
        for (int i = 0; i < move; i++) {
            if (at(ends, i) == at(ends, move)) {
                return true;
            }
        }
        return false;
    }

    /** The most that n PAIRS can bring that begin with a move. */
    private int worthOfMove(int move, int pairs, Shelf worths) {
        playMove(move, now.marks, now.coins);
        int most = worthOfMarks(years.marks, worths);
        if (pairs == 1) {
            return most;
        }
        int marks = years.marks;
        int coins = years.coins;
        // The first of all moves does nothing: what it brings is that already.
        for (int i = 1; i < moveCount; i++) {
            playMove(at(moves, i), marks, coins);
            most = Math.max(most, worthOfMarks(years.marks, worths));
        }
        return most;
    }

    private void playMove(int move, int marks, int coins) {
        years.open(now);
        years.add(now.deedAt(move / 10 % 10));
        years.add(now.deedAt(move % 10));
        years.begin(marks, coins);
        years.evenYear(move / 100);
        years.oddYear();
    }

    private static int worthOfMarks(int marks, Shelf worths) {
        int sum = 0;
        for (int mark = 0; mark < MARKS; mark++) {
            if ((marks >> mark & 1) != 0) {
                sum += worths.read(mark);
            }
        }
        return sum;
    }

    // ---- two people's lists, seeds, what is told

    /** Two LISTS in turn in mind: the places that are the one's, as bits. */
    private int playTwo(Shelf list, Shelf other, int nails, int others) {
        int ones = 0;
        int nailed = 0;
        years.open(now);
        for (int i = 0; i < LIST_PLACES; i++) {
            if (i < list.size) {
                ones |= 1 << years.size;
                nailed |= (nails >> i & 1) << years.size;
                years.add(now.deedAt(list.read(i)));
            }
            if (i < other.size) {
                nailed |= (others >> i & 1) << years.size;
                years.add(now.deedAt(other.read(i)));
            }
        }
        years.play(nailed);
        return ones;
    }

    /** PAIRS by a seed in mind: how many DEEDS were undone in all of them. */
    private int playSeeds(int pairs, int seed) {
        int undone = 0;
        int z = seed;
        years.begin(now.marks, now.coins);
        for (int n = 0; n < pairs; n++) {
            years.open(now);
            z = nextSeed(z);
            int k = 1 + drawn(z, 4);
            for (int i = 0; i < k; i++) {
                z = nextSeed(z);
                years.add(now.deedAt(drawn(z, now.deedCount)));
            }
            z = nextSeed(z);
            years.begin(years.marks, years.coins);
            years.evenYear(drawn(z, 1 << k));
            years.oddYear();
            undone += Integer.bitCount(years.undone);
        }
        return undone;
    }

    private static int nextSeed(int z) {
        return z * 1103515245 + 12345;
    }

    private static int drawn(int z, int below) {
        return below <= 0 ? 0 : (z & ALL_BUT_SIGN) / 65536 % below;
    }

    /** The place of the first thing told that is wrong by the LIST in mind. */
    private int firstWrong(Shelf told, int nails) {
        years.begin(now.marks, now.coins);
        for (int i = 0; i < told.size; i++) {
            if (i < years.size) {
                years.evenPlace(i, nails);
            } else if (i == years.size) {
                years.oddYear();
            }
            boolean isSo = i <= years.size && told.read(i) == years.marks;
            if (!isSo && told.read(i) != told.leastNumber()) {
                return i;
            }
        }
        return NONE;
    }

    // ---- rows of numbers

    private static int at(int[] row, int i) {
        return i >= 0 && i < row.length ? row[i] : 0;
    }

    private static void store(int[] row, int i, int v) {
        if (i >= 0 && i < row.length) {
            row[i] = v;
        }
    }

    // ---- what stands on shelves, what is done, and what is so

    /** Nothing, a DEED or a ROW. */
    private static final class Shelf {
        static final int BYTES = 0;
        static final int SHORTS = 1;
        static final int INTS = 2;
        static final int NO_ROW = -1;
        static final int LEAST_BYTE = -128;
        static final int LEAST_SHORT = -32768;
        static final int LEAST_INT = -2147483648;
        /** Read where there is no element, so that it is no sign of any text. */
        static final int NO_ELEMENT = LEAST_INT;

        final int[] elements = new int[MOST_ELEMENTS];
        Deed deed;
        int sort = NO_ROW;
        int size;

        void hold(Deed held) {
            deed = held;
            sort = NO_ROW;
            size = 0;
        }

        void holdRow(int newSort, int newSize) {
            deed = null;
            sort = newSort;
            size = newSize;
            for (int i = 0; i < elements.length; i++) {
                elements[i] = 0;
            }
        }

        boolean isEmpty() {
            return deed == null && sort == NO_ROW;
        }

        int rowRefusal() {
            return isEmpty() ? NOTHING_HELD : sort == NO_ROW ? OTHER_KIND : 0;
        }

        int bytesRefusal() {
            return isEmpty() ? NOTHING_HELD : sort != BYTES ? OTHER_KIND : 0;
        }

        int deedRefusal() {
            return isEmpty() ? NOTHING_HELD : deed == null ? OTHER_KIND : 0;
        }

        boolean hasPlace(int i) {
            return i >= 0 && i < size;
        }

        boolean hasPlaces(int from, int n) {
            return from >= 0 && n >= 0 && from <= size && n <= size - from;
        }

        int read(int i) {
            return hasPlace(i) ? at(elements, i) : NO_ELEMENT;
        }

        boolean write(int i, int v) {
            if (!hasPlace(i)) {
                return false;
            }
            store(elements, i, sort == BYTES ? (byte) v : sort == SHORTS ? (short) v : v);
            return true;
        }

        int leastNumber() {
            return sort == BYTES ? LEAST_BYTE : sort == SHORTS ? LEAST_SHORT : LEAST_INT;
        }
    }

    /** What a KIND does otherwise than the one it is under, its constructor tells. */
    private static class Deed {
        final int number;
        final int needs;
        final int makes;
        final int pays;
        final int figure;
        int kind = PLAIN;
        int cost;
        int back;
        /** MARKS that are so, and that are not so, when it is done. */
        int sets;
        int clears;
        boolean keeps;
        int care = 4;
        int failure;
        boolean canFail;

        Deed(int number, int needs, int makes, int pays, int figure) {
            this.number = number;
            this.needs = needs;
            this.makes = makes;
            this.pays = pays;
            this.figure = figure;
            cost = pays;
            back = pays;
            sets = 1 << makes;
            failure = number;
            canFail = figure != 0;
        }

        boolean hasGround(int marks) {
            return (needs & ~marks) == 0;
        }

        boolean mayBeDone(int marks, int coins) {
            return hasGround(marks) && coins >= cost;
        }

        int marksBehind(int marks) {
            return (marks | sets) & ~clears;
        }

        void fail() {
            if (canFail) {
                throw new IllegalStateException("a deed fails");
            }
        }
    }

    private static class Raised extends Deed {
        Raised(int number, int needs, int makes, int pays, int figure) {
            super(number, needs, makes, pays, figure);
            kind = RAISED;
            cost += figure;
            back = cost / 2;
            care *= 3;
        }
    }

    private static class Spent extends Deed {
        Spent(int number, int needs, int makes, int pays, int figure) {
            super(number, needs, makes, pays, figure);
            kind = SPENT;
            back = 0;
            care += pays;
        }
    }

    private static final class Lent extends Spent {
        Lent(int number, int needs, int makes, int pays, int figure) {
            super(number, needs, makes, pays, figure);
            kind = LENT;
            cost /= 2;
            back = figure;
            care -= figure;
            canFail = false;
        }
    }

    private static class Said extends Deed {
        Said(int number, int needs, int makes, int pays, int figure) {
            super(number, needs, makes, pays, figure);
            kind = SAID;
            cost = 0;
            back = 0;
            keeps = figure >= 5;
            care -= 3;
        }
    }

    private static final class Built extends Raised {
        Built(int number, int needs, int makes, int pays, int figure) {
            super(number, needs, makes, pays, figure);
            kind = BUILT;
            cost += 5;
            back = cost / 2;
            keeps = figure == 9;
            care += 1;
            failure += 100;
        }
    }

    private static final class Pulled extends Deed {
        Pulled(int number, int needs, int makes, int pays, int figure) {
            super(number, needs, makes, pays, figure);
            kind = PULLED;
            clears = sets;
            sets = 0;
            care *= 2;
        }
    }

    private static final class Sworn extends Said {
        Sworn(int number, int needs, int makes, int pays, int figure) {
            super(number, needs, makes, pays, figure);
            kind = SWORN;
            sets |= 1 << figure;
            care *= figure;
            failure = 200 + care;
        }
    }

    /** All that there is but SHELVES, and how it is read from a text. */
    private static final class Town {
        private final Deed[] deeds = new Deed[DEEDS];
        int deedCount;
        int marks;
        int coins = 100;
        int law;
        int nail = 10;
        int rise;
        int year;

        void become(Town other) {
            for (int i = 0; i < deeds.length; i++) {
                deeds[i] = other.deedAt(i);
            }
            deedCount = other.deedCount;
            marks = other.marks;
            coins = other.coins;
            law = other.law;
            nail = other.nail;
            rise = other.rise;
            year = other.year;
        }

        Deed deedAt(int i) {
            return i >= 0 && i < deedCount && i < deeds.length ? deeds[i] : null;
        }

        int nailCost(int place) {
            int cost = nail + place * rise;
            return cost < 0 ? 0 : cost;
        }

        int changeLaw(int n) {
            if (n < 0 || n >= LAWS) {
                return NO_SUCH;
            }
            int was = law;
            law = n;
            return was;
        }

        int changeNail(int n) {
            if (n < 0 || n > MOST_NAIL) {
                return NO_SUCH;
            }
            int was = nail;
            nail = n;
            return was;
        }

        int changeCoins(int n) {
            if (n < 0 || n > MOST_COINS) {
                return NO_SUCH;
            }
            int was = coins;
            coins = n;
            return was;
        }

        /** How many STATEMENTS a text has, each of which comes; or its FAULT (then some may have come). */
        int read(Shelf text) {
            int statements = 0;
            int place = 0;
            // A STATEMENT has a byte at least, so there are never more of them than bytes.
            while (statements == 0 || statements < text.size && place < text.size) {
                place = behindStatement(text, place);
                if (place < 0) {
                    return -1000 - faultAt(place);
                }
                statements++;
            }
            place = 0;
            for (int n = 0; n < statements; n++) {
                if (!take(text, place)) {
                    return -2000 - place;
                }
                place = behindStatement(text, place);
            }
            return statements;
        }

        // Each of these answers the place behind what it asks for at a place. If that isn't there,
        // the answer is below 0 and holds the place of the first wrong byte; it goes on through all
        // that is asked for behind it.

        private static int wrongAt(int place) {
            return -1 - place;
        }

        private static int faultAt(int answer) {
            return -1 - answer;
        }

        private static int behindStatement(Shelf text, int place) {
            int end;
            switch (text.read(place)) {
                case 'd':
                    end = behindDeed(text, place + 1);
                    break;
                case 'm':
                    end = behindLetter(text, place + 1);
                    break;
                case 'c':
                    end = behindNumber(text, place + 1, 4);
                    break;
                case 'n':
                    end = behindNail(text, place + 1);
                    break;
                case 'l':
                    end = behindDigit(text, place + 1);
                    break;
                default:
                    return wrongAt(place);
            }
            return behindSign(text, end, ';');
        }

        private static int behindDeed(Shelf text, int place) {
            int end = behindNeeds(text, behindDigit(text, place));
            end = behindLetter(text, behindSign(text, end, ' '));
            end = behindSign(text, behindNumber(text, end, 2), ' ');
            return behindDigit(text, end);
        }

        private static int behindNail(Shelf text, int place) {
            int end = behindSign(text, behindNumber(text, place, 2), ' ');
            if (end >= 0 && text.read(end) == '-') {
                return behindDigit(text, end + 1);
            }
            return behindDigit(text, behindSign(text, end, '+'));
        }

        private static int behindSign(Shelf text, int place, int sign) {
            if (place < 0) {
                return place;
            }
            return text.read(place) == sign ? place + 1 : wrongAt(place);
        }

        private static int behindDigit(Shelf text, int place) {
            if (place < 0) {
                return place;
            }
            return isDigit(text.read(place)) ? place + 1 : wrongAt(place);
        }

        private static int behindLetter(Shelf text, int place) {
            if (place < 0) {
                return place;
            }
            return isLetter(text.read(place)) ? place + 1 : wrongAt(place);
        }

        /** A letter that isn't behind the one ahead of it is left for what comes next to refuse. */
        private static int behindNeeds(Shelf text, int place) {
            int end = place;
            int last = 0;
            for (int n = 0; n < MARKS && isLetter(text.read(end)) && text.read(end) > last; n++) {
                last = text.read(end);
                end++;
            }
            return end;
        }

        /** A digit behind a 0, or one too many, is left for what comes next to refuse. */
        private static int behindNumber(Shelf text, int place, int digits) {
            int end = behindDigit(text, place);
            if (end < 0 || text.read(place) == '0') {
                return end;
            }
            for (int n = 1; n < digits && isDigit(text.read(end)); n++) {
                end++;
            }
            return end;
        }

        private static boolean isDigit(int sign) {
            return sign >= '0' && sign <= '9';
        }

        private static boolean isLetter(int sign) {
            return sign >= 'a' && sign <= 'j';
        }

        /** The STATEMENT at a place comes, if it is as told. Its signs have been looked at before. */
        private boolean take(Shelf text, int place) {
            switch (text.read(place)) {
                case 'd':
                    return takeDeed(newDeed(text, place + 1));
                case 'm':
                    return takeMark(text.read(place + 1) - 'a');
                case 'c':
                    return changeCoins(number(text, place + 1)) >= 0;
                case 'n':
                    return takeNail(text, place + 1);
                default:
                    return changeLaw(number(text, place + 1)) >= 0;
            }
        }

        private boolean takeMark(int mark) {
            if ((marks >> mark & 1) != 0) {
                return false;
            }
            marks |= 1 << mark;
            return true;
        }

        private boolean takeNail(Shelf text, int place) {
            int sign = behindNumber(text, place, 2) + 1;
            int steps = number(text, sign + 1);
            rise = text.read(sign) == '-' ? -steps : steps;
            return changeNail(number(text, place)) >= 0;
        }

        private boolean takeDeed(Deed deed) {
            if (deed == null || deedCount >= deeds.length) {
                return false;
            }
            deeds[deedCount] = deed;
            deedCount++;
            return true;
        }

        /** The DEED told behind a d; null if there is no such KIND. */
        private Deed newDeed(Shelf text, int place) {
            int needsEnd = behindNeeds(text, place + 1);
            int needs = 0;
            for (int i = place + 1; i < needsEnd; i++) {
                needs |= 1 << text.read(i) - 'a';
            }
            int makes = text.read(needsEnd + 1) - 'a';
            int paysAt = needsEnd + 2;
            int pays = number(text, paysAt);
            int figure = number(text, behindNumber(text, paysAt, 2) + 1);
            switch (number(text, place)) {
                case PLAIN: return new Deed(deedCount, needs, makes, pays, figure);
                case RAISED: return new Raised(deedCount, needs, makes, pays, figure);
                case SPENT: return new Spent(deedCount, needs, makes, pays, figure);
                case LENT: return new Lent(deedCount, needs, makes, pays, figure);
                case SAID: return new Said(deedCount, needs, makes, pays, figure);
                case BUILT: return new Built(deedCount, needs, makes, pays, figure);
                case PULLED: return new Pulled(deedCount, needs, makes, pays, figure);
                case SWORN: return new Sworn(deedCount, needs, makes, pays, figure);
                default: return null;
            }
        }

        private static int number(Shelf text, int place) {
            int number = 0;
            for (int i = place; i < text.size && isDigit(text.read(i)); i++) {
                number = 10 * number + text.read(i) - '0';
            }
            return number;
        }
    }

    /** A LIST gone through in mind: an EVEN YEAR and the ODD one behind it. Sets of places are bits. */
    private static final class Years {
        private final Deed[] deeds = new Deed[2 * LIST_PLACES];
        /** MARKS that the DEED at a place made so, and made not so. */
        private final int[] made = new int[2 * LIST_PLACES];
        private final int[] lost = new int[2 * LIST_PLACES];
        private Town town;
        int law;
        int size;
        int marks;
        int coins;
        int paid;
        int done;
        int undone;
        private int nailed;
        /** Nailed ones and ones that KEEP. */
        private int firm;
        private int fallen;

        /** An empty LIST, in a town as it is. */
        void open(Town where) {
            town = where;
            law = where.law;
            size = 0;
        }

        /** A DEED more on the LIST; null is none. */
        void add(Deed deed) {
            if (deed != null && size < deeds.length) {
                deeds[size] = deed;
                size++;
            }
        }

        private Deed deedAt(int place) {
            return place >= 0 && place < size && place < deeds.length ? deeds[place] : null;
        }

        void begin(int marksSo, int coinsThere) {
            marks = marksSo;
            coins = coinsThere;
            paid = 0;
            done = 0;
            undone = 0;
            nailed = 0;
            firm = 0;
            fallen = 0;
        }

        /** A PAIR of years from how the town is. */
        void play(int nails) {
            if (town != null) {
                begin(town.marks, town.coins);
            }
            evenYear(nails);
            oddYear();
        }

        void evenYear(int nails) {
            for (int place = 0; place < size; place++) {
                evenPlace(place, nails);
            }
        }

        void evenPlace(int place, int nails) {
            Deed deed = deedAt(place);
            if (deed == null || !deed.mayBeDone(marks, coins)) {
                return;
            }
            int marksBehind = deed.marksBehind(marks);
            store(made, place, marksBehind & ~marks);
            store(lost, place, marks & ~marksBehind);
            marks = marksBehind;
            coins -= deed.cost;
            done |= 1 << place;
            if (deed.keeps) {
                firm |= 1 << place;
            }
            if (has(nails, place)) {
                nailAt(place);
            }
        }

        private void nailAt(int place) {
            int cost = town == null ? 0 : town.nailCost(place);
            if (coins >= cost) {
                coins -= cost;
                paid += cost;
                nailed |= 1 << place;
                firm |= 1 << place;
            }
        }

        void oddYear() {
            for (int place = size - 1; place >= 0; place--) {
                if (has(done & ~firm, place) && !stays(place)) {
                    undo(place);
                    if (law == FALL_LAW) {
                        letFall();
                    }
                }
            }
        }

        /** Firm ones are never undone where this is the LAW. */
        private boolean stays(int place) {
            if (law != STAY_LAW) {
                return false;
            }
            int changed = at(made, place) | at(lost, place);
            for (int later = place + 1; later < size; later++) {
                Deed deed = deedAt(later);
                if (deed != null && has(firm, later) && (deed.needs & changed) != 0) {
                    return true;
                }
            }
            return false;
        }

        private void letFall() {
            boolean fell = true;
            // Each round but the last has one that falls, so there are never more rounds than that.
            for (int round = 0; round <= size && fell; round++) {
                fell = false;
                for (int place = size - 1; place >= 0; place--) {
                    Deed deed = deedAt(place);
                    if (deed != null && has(firm & ~undone, place) && !deed.hasGround(marks)) {
                        undo(place);
                        fallen |= 1 << place;
                        fell = true;
                    }
                }
            }
        }

        private void undo(int place) {
            Deed deed = deedAt(place);
            if (deed != null) {
                marks = marks & ~at(made, place) | at(lost, place);
                coins = Math.min(MOST_COINS, coins + deed.back);
                undone |= 1 << place;
            }
        }

        int standing() {
            return done & ~undone;
        }

        /** WHY: what became of the DEED at a place. */
        int fate(int place) {
            if (!has(done, place)) {
                return 0;
            }
            if (has(undone, place)) {
                return has(fallen, place) ? 5 : 1;
            }
            if (has(nailed, place)) {
                return 2;
            }
            return has(firm, place) ? 3 : 4;
        }

        /** LEAST NAILS for a set of MARKS, as bits; below 0 if there are none. */
        int leastNails(int wanted) {
            int best = NONE;
            int bestPaid = 0;
            for (int nails = 0; nails < 1 << size; nails++) {
                int fewer = best < 0 ? 1 : Integer.bitCount(best) - Integer.bitCount(nails);
                if (fewer < 0) {
                    continue;
                }
                play(nails);
                if ((wanted & ~marks) == 0 && (fewer > 0 || paid < bestPaid)) {
                    best = nails;
                    bestPaid = paid;
                }
            }
            return best;
        }

        private static boolean has(int set, int place) {
            return (set >> place & 1) != 0;
        }
    }
}
