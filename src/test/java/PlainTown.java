import java.util.ArrayList;
import java.util.Arrays;
import java.util.Comparator;
import java.util.List;
import java.util.Set;
import java.util.TreeSet;
import java.util.function.IntPredicate;
import java.util.regex.Matcher;
import java.util.regex.Pattern;

/**
 * The document once more, written from its words in the plainest way and without regard to speed or room, with the
 * whole Java library: what random runs of the class are held against. Nothing of the class is used here.
 */
final class PlainTown {
    private static final List<String> KINDS =
            List.of("DEED", "RAISED", "SPENT", "LENT", "SAID", "BUILT", "PULLED", "SWORN");
    private static final Pattern TOWN = Pattern.compile("(?:d[0-9]a?b?c?d?e?f?g?h?i?j? [a-j](?:0|[1-9][0-9]?) [0-9];"
            + "|m[a-j];|c(?:0|[1-9][0-9]{0,3});|n(?:0|[1-9][0-9]?) [+-][0-9];|l[0-9];)+");
    private static final Pattern DEED = Pattern.compile("d(.)(.*) (.)(\\d+) (\\d)");
    private static final Pattern NAIL = Pattern.compile("n(\\d+) (.)(\\d)");

    record Deed(int number, String kind, Set<Integer> needs, int makes, int pays, int figure) {
        int cost() {
            return costAs(kind);
        }

        private int costAs(String as) {
            return switch (as) {
                case "RAISED" -> costAs("DEED") + figure;
                case "SPENT", "PULLED" -> costAs("DEED");
                case "LENT" -> costAs("SPENT") / 2;
                case "SAID" -> 0;
                case "BUILT" -> costAs("RAISED") + 5;
                case "SWORN" -> costAs("SAID");
                default -> pays;
            };
        }

        int back() {
            return switch (kind) {
                case "DEED", "PULLED" -> cost();
                case "RAISED", "BUILT" -> cost() / 2;
                case "LENT" -> figure;
                default -> 0;
            };
        }

        boolean keeps() {
            return List.of("SAID", "SWORN").contains(kind) && figure >= 5 || kind.equals("BUILT") && figure == 9;
        }

        int careAs(String as) {
            return switch (as) {
                case "RAISED" -> careAs("DEED") * 3;
                case "SPENT" -> careAs("DEED") + pays;
                case "LENT" -> careAs("SPENT") - figure;
                case "SAID" -> careAs("DEED") - 3;
                case "BUILT" -> careAs("RAISED") + 1;
                case "PULLED" -> 2 * careAs("DEED");
                case "SWORN" -> careAs("SAID") * figure;
                default -> 4;
            };
        }

        int failure() {
            if (kind.equals("LENT") || figure == 0) {
                return -15;
            }
            return kind.equals("SWORN") ? 200 + careAs("SWORN") : kind.equals("BUILT") ? number + 100 : number;
        }

        Set<Integer> doneTo(Set<Integer> so) {
            Set<Integer> then = new TreeSet<>(so);
            if (kind.equals("PULLED")) {
                then.remove(makes);
            } else {
                then.add(makes);
            }
            if (kind.equals("SWORN")) {
                then.add(figure);
            }
            return then;
        }
    }

    /** All that there is but SHELVES. */
    record State(List<Deed> deeds, Set<Integer> so, int coins, int law, int nail, int rise, int year) {
        boolean may(Deed deed) {
            return so.containsAll(deed.needs) && coins >= deed.cost();
        }

        int nailing(int place) {
            return Math.max(0, nail + place * rise);
        }

        State with(Set<Integer> newSo, int newCoins) {
            return new State(deeds, newSo, newCoins, law, nail, rise, year);
        }

        State later(int years) {
            return new State(deeds, so, coins, law, nail, rise, year + years);
        }

        State under(int newLaw) {
            return new State(deeds, so, coins, newLaw, nail, rise, year);
        }

        State nailed(int newNail, int newRise) {
            return new State(deeds, so, coins, law, newNail, newRise, year);
        }
    }

    enum Fate { NOT_DONE, UNDONE, NAILED, KEPT, STAYED, FELL, DONE }

    /** One place of a LIST that is gone through. */
    static final class Step {
        final Deed deed;
        Fate fate = Fate.NOT_DONE;
        Set<Integer> ahead;
        Set<Integer> changed;

        Step(Deed deed) {
            this.deed = deed;
        }

        boolean firm() {
            return fate == Fate.NAILED || fate == Fate.KEPT;
        }

        boolean gone() {
            return fate == Fate.UNDONE || fate == Fate.FELL;
        }

        boolean stands() {
            return fate != Fate.NOT_DONE && !gone();
        }
    }

    /** A LIST gone through from a state. */
    static final class Passing {
        State state;
        final List<Step> steps = new ArrayList<>();
        final List<Set<Integer>> told = new ArrayList<>();
        int paid;

        Passing(State from, List<Deed> list, IntPredicate wanted) {
            state = from;
            for (Deed deed : list) {
                Step step = new Step(deed);
                steps.add(step);
                doIt(step, steps.size() - 1, wanted.test(steps.size() - 1));
                told.add(state.so);
            }
        }

        private void doIt(Step step, int place, boolean wanted) {
            if (!state.may(step.deed)) {
                return;
            }
            step.ahead = state.so;
            state = state.with(step.deed.doneTo(state.so), state.coins - step.deed.cost());
            step.changed = new TreeSet<>();
            for (int mark = 0; mark < 10; mark++) {
                if (step.ahead.contains(mark) != state.so.contains(mark)) {
                    step.changed.add(mark);
                }
            }
            step.fate = step.deed.keeps() ? Fate.KEPT : Fate.DONE;
            int price = state.nailing(place);
            if (wanted && state.coins >= price) {
                state = state.with(state.so, state.coins - price);
                paid += price;
                step.fate = Fate.NAILED;
            }
        }

        Passing odd() {
            for (int place = steps.size() - 1; place >= 0; place--) {
                Step step = steps.get(place);
                if (step.fate != Fate.DONE) {
                    continue;
                }
                if (state.law == 1 && steps.subList(place + 1, steps.size()).stream()
                        .anyMatch(s -> s.firm() && s.deed.needs.stream().anyMatch(step.changed::contains))) {
                    step.fate = Fate.STAYED;
                    continue;
                }
                undo(step, Fate.UNDONE);
                while (state.law == 0 && fall()) {
                    continue;
                }
            }
            told.add(state.so);
            return this;
        }

        private boolean fall() {
            boolean fell = false;
            for (int place = steps.size() - 1; place >= 0; place--) {
                Step step = steps.get(place);
                if (step.firm() && !state.so.containsAll(step.deed.needs)) {
                    undo(step, Fate.FELL);
                    fell = true;
                }
            }
            return fell;
        }

        private void undo(Step step, Fate fate) {
            Set<Integer> so = new TreeSet<>(state.so);
            for (int mark : step.changed) {
                if (step.ahead.contains(mark)) {
                    so.add(mark);
                } else {
                    so.remove(mark);
                }
            }
            state = state.with(so, Math.min(9999, state.coins + step.deed.back()));
            step.fate = fate;
        }

        int many(java.util.function.Predicate<Step> which) {
            return (int) steps.stream().filter(which).count();
        }
    }

    /** What is held on a SHELF: null, a Deed or a Row. */
    record Row(int sort, int[] elements) {
        int trimmed(int v) {
            return sort == 0 ? (byte) v : sort == 1 ? (short) v : v;
        }

        int least() {
            return sort == 0 ? -128 : sort == 1 ? -32768 : Integer.MIN_VALUE;
        }
    }

    State now = new State(List.of(), Set.of(), 100, 0, 10, 0, 0);
    private State image;
    private final Object[] shelves = new Object[8];

    static int bits(Set<Integer> marks) {
        return marks.stream().mapToInt(m -> 1 << m).sum();
    }

    private static Set<Integer> marksOf(int bits) {
        Set<Integer> marks = new TreeSet<>();
        for (int m = 0; m < 10; m++) {
            if ((bits >> m) % 2 != 0) {
                marks.add(m);
            }
        }
        return marks;
    }

    private static IntPredicate in(int bits) {
        return i -> (bits >> i) % 2 != 0;
    }

    private static boolean outside(int n, int least, int most) {
        return n < least || n > most;
    }

    private boolean noDeed(int k) {
        return outside(k, 0, now.deeds.size() - 1);
    }

    private int bytesRefusal(int d) {
        if (outside(d, 0, 7)) {
            return -1;
        }
        return shelves[d] == null ? -11 : shelves[d] instanceof Row row && row.sort == 0 ? 0 : -12;
    }

    int town(int d) {
        if (bytesRefusal(d) != 0) {
            return bytesRefusal(d);
        }
        StringBuilder text = new StringBuilder();
        for (int b : ((Row) shelves[d]).elements) {
            text.append((char) (b & 255));
        }
        for (int length = 1; length <= text.length(); length++) {
            Matcher matcher = TOWN.matcher(text.substring(0, length));
            if (!matcher.matches() && !matcher.hitEnd()) {
                return -1000 - (length - 1);
            }
        }
        if (!TOWN.matcher(text).matches()) {
            return -1000 - text.length();
        }
        State tried = now;
        int place = 0;
        String[] statements = text.toString().split(";");
        for (String statement : statements) {
            tried = statement(tried, statement);
            if (tried == null) {
                return -2000 - place;
            }
            place += statement.length() + 1;
        }
        now = tried;
        return statements.length;
    }

    private static State statement(State s, String text) {
        String rest = text.substring(1);
        switch (text.charAt(0)) {
            case 'm':
                Set<Integer> so = new TreeSet<>(s.so);
                return so.add(rest.charAt(0) - 'a') ? s.with(so, s.coins) : null;
            case 'c':
                return s.with(s.so, Integer.parseInt(rest));
            case 'l':
                return Integer.parseInt(rest) > 2 ? null : s.under(Integer.parseInt(rest));
            case 'n':
                Matcher nail = NAIL.matcher(text);
                return nail.matches()
                        ? s.nailed(Integer.parseInt(nail.group(1)), Integer.parseInt(nail.group(2) + nail.group(3)))
                        : null;
            default:
                Matcher deed = DEED.matcher(text);
                if (!deed.matches() || Integer.parseInt(deed.group(1)) > 7 || s.deeds.size() == 8) {
                    return null;
                }
                Set<Integer> needs = new TreeSet<>();
                deed.group(2).chars().forEach(c -> needs.add(c - 'a'));
                List<Deed> deeds = new ArrayList<>(s.deeds);
                deeds.add(new Deed(deeds.size(), KINDS.get(Integer.parseInt(deed.group(1))), needs,
                        deed.group(3).charAt(0) - 'a', Integer.parseInt(deed.group(4)),
                        Integer.parseInt(deed.group(5))));
                return new State(deeds, s.so, s.coins, s.law, s.nail, s.rise, s.year);
        }
    }

    int deed(int deed, int what) {
        if (noDeed(deed) || outside(what, 0, 7)) {
            return -1;
        }
        Deed x = now.deeds.get(deed);
        return new int[] {KINDS.indexOf(x.kind), bits(x.needs), x.makes, x.pays, x.figure, x.cost(), x.back(),
            x.keeps() ? 1 : 0}[what];
    }

    int state(int what) {
        return outside(what, 0, 3) ? -1 : new int[] {now.coins, now.year, now.law, now.nail}[what];
    }

    int set(int what, int n) {
        if (outside(what, 0, 2) || outside(n, 0, new int[] {2, 99, 9999}[what])) {
            return -1;
        }
        int was = new int[] {now.law, now.nail, now.coins}[what];
        now = what == 0 ? now.under(n) : what == 1 ? now.nailed(n, now.rise) : now.with(now.so, n);
        return was;
    }

    int may(int deed) {
        return noDeed(deed) ? -1 : now.may(now.deeds.get(deed)) ? 1 : 0;
    }

    /** The LIST in a SHELF into a given one: 0, or what is refused. */
    private int list(int d, List<Deed> into) {
        if (bytesRefusal(d) != 0) {
            return bytesRefusal(d);
        }
        Row row = (Row) shelves[d];
        if (row.elements.length > 8 || Arrays.stream(row.elements).anyMatch(this::noDeed)) {
            return -13;
        }
        Arrays.stream(row.elements).forEach(i -> into.add(now.deeds.get(i)));
        return 0;
    }

    interface Asked {
        int of(List<Deed> list);
    }

    private int byList(int d, Asked asked) {
        List<Deed> list = new ArrayList<>();
        int refusal = list(d, list);
        return refusal != 0 ? refusal : asked.of(list);
    }

    private Passing pass(List<Deed> list, int nails) {
        return new Passing(now, list, in(nails)).odd();
    }

    int pair(int d, int nails) {
        return outside(nails, 0, 255) ? -1 : byList(d, list -> {
            Passing p = pass(list, nails);
            now = p.state.later(2);
            return p.many(Step::stands);
        });
    }

    int even(int d) {
        return byList(d, list -> {
            Passing p = new Passing(now, list, i -> false);
            now = p.state.later(1);
            return p.many(Step::stands);
        });
    }

    int lasts(int d, int nails, int mark) {
        return outside(mark, 0, 9) || outside(nails, 0, 255) ? -1
                : byList(d, list -> pass(list, nails).state.so.contains(mark) ? 1 : 0);
    }

    int why(int d, int nails, int place) {
        return outside(nails, 0, 255) ? -1 : byList(d, list -> outside(place, 0, list.size() - 1) ? -13
                : pass(list, nails).steps.get(place).fate.ordinal());
    }

    int behind(int d, int nails, int what) {
        return outside(nails, 0, 255) || outside(what, 0, 3) ? -1 : byList(d, list -> {
            Passing p = pass(list, nails);
            return new int[] {bits(p.state.so), p.state.coins, p.many(Step::gone), p.paid}[what];
        });
    }

    private int leastNails(List<Deed> list, int marks) {
        List<Integer> sets = new ArrayList<>();
        for (int nails = 0; nails < 1 << list.size(); nails++) {
            if (pass(list, nails).state.so.containsAll(marksOf(marks))) {
                sets.add(nails);
            }
        }
        return sets.stream().min(Comparator.<Integer>comparingInt(Integer::bitCount)
                .thenComparingInt(n -> pass(list, n).paid).thenComparingInt(n -> n)).orElse(-4);
    }

    int least(int d, int marks, int what) {
        return outside(marks, 0, 1023) || outside(what, 0, 2) ? -1 : byList(d, list -> {
            int nails = leastNails(list, marks);
            return nails < 0 ? -4 : new int[] {Integer.bitCount(nails), pass(list, nails).paid, nails}[what];
        });
    }

    private static void orders(List<Integer> begun, int places, List<List<Integer>> all) {
        if (begun.size() == places) {
            all.add(List.copyOf(begun));
        }
        for (int i = 0; i < places; i++) {
            if (!begun.contains(i)) {
                begun.add(i);
                orders(begun, places, all);
                begun.remove(begun.size() - 1);
            }
        }
    }

    int free(int d, int marks, int what) {
        return outside(marks, 0, 1023) || outside(what, 0, 1) ? -1 : byList(d, list -> {
            if (list.size() > 5) {
                return -13;
            }
            List<List<Integer>> all = new ArrayList<>();
            orders(new ArrayList<>(), list.size(), all);
            int digits = -4;
            int fewest = -4;
            for (List<Integer> order : all) {
                int nails = leastNails(order.stream().map(list::get).toList(), marks);
                if (nails >= 0 && (fewest < 0 || Integer.bitCount(nails) < fewest)) {
                    fewest = Integer.bitCount(nails);
                    digits = 0;
                    for (int i = 0; i < order.size(); i++) {
                        digits += order.get(i) * (int) Math.pow(10, i);
                    }
                }
            }
            return what == 0 ? digits : fewest;
        });
    }

    record Move(List<Deed> list, int nails) {
        int told() {
            return 100 * nails + 10 * (list.size() > 0 ? list.get(0).number : 9)
                    + (list.size() > 1 ? list.get(1).number : 9);
        }
    }

    private List<Move> moves() {
        List<Move> moves = new ArrayList<>(List.of(new Move(List.of(), 0)));
        for (Deed a : now.deeds) {
            for (int nails = 0; nails < 2; nails++) {
                moves.add(new Move(List.of(a), nails));
            }
        }
        for (Deed a : now.deeds) {
            for (Deed b : now.deeds) {
                for (int nails = 0; nails < 4 && a != b; nails++) {
                    moves.add(new Move(List.of(a, b), nails));
                }
            }
        }
        return moves;
    }

    int plan(int n, int d, int what) {
        if (outside(n, 1, 2) || outside(what, 0, 1) || outside(d, 0, 7)) {
            return -1000000001;
        }
        if (shelves[d] == null) {
            return -1000000011;
        }
        if (!(shelves[d] instanceof Row row)) {
            return -1000000012;
        }
        if (row.elements.length != 10 || Arrays.stream(row.elements).anyMatch(w -> outside(w, -999, 999))) {
            return -1000000013;
        }
        int most = Integer.MIN_VALUE;
        int first = 0;
        for (Move move : moves()) {
            State then = new Passing(now, move.list, in(move.nails)).odd().state;
            int worth = worth(then, row.elements);
            if (n == 2) {
                worth = Integer.MIN_VALUE;
                for (Move second : moves()) {
                    State end = new Passing(then, second.list, in(second.nails)).odd().state;
                    worth = Math.max(worth, worth(end, row.elements));
                }
            }
            if (worth > most) {
                most = worth;
                first = move.told();
            }
        }
        return what == 0 ? most : first;
    }

    private static int worth(State state, int[] worths) {
        return state.so.stream().mapToInt(m -> worths[m]).sum();
    }

    int ever() {
        Set<Integer> reached = new TreeSet<>(now.so);
        boolean more = true;
        while (more) {
            more = false;
            for (Deed deed : now.deeds) {
                if (!deed.kind.equals("PULLED") && reached.containsAll(deed.needs)) {
                    more |= reached.addAll(deed.doneTo(reached));
                }
            }
        }
        return bits(reached);
    }

    int help() {
        Set<Integer> helped = new TreeSet<>();
        for (Deed deed : now.deeds) {
            if (deed.kind.equals("PULLED") && now.may(deed)) {
                Set<Integer> lost = new TreeSet<>(now.so);
                lost.removeAll(deed.doneTo(now.so));
                helped.addAll(lost);
            }
        }
        return bits(helped);
    }

    int two(int d, int e, int nails, int others, int what) {
        if (outside(d, 0, 7) || outside(e, 0, 7) || outside(nails, 0, 255) || outside(others, 0, 255)
                || outside(what, 0, 1)) {
            return -1;
        }
        return byList(d, one -> byList(e, other -> {
            List<Deed> both = new ArrayList<>();
            List<Integer> owners = new ArrayList<>();
            List<Boolean> nailed = new ArrayList<>();
            for (int i = 0; i < Math.max(one.size(), other.size()); i++) {
                if (i < one.size()) {
                    both.add(one.get(i));
                    owners.add(0);
                    nailed.add(in(nails).test(i));
                }
                if (i < other.size()) {
                    both.add(other.get(i));
                    owners.add(1);
                    nailed.add(in(others).test(i));
                }
            }
            Passing p = new Passing(now, both, nailed::get).odd();
            int stand = 0;
            for (int i = 0; i < both.size(); i++) {
                stand += owners.get(i) == what && p.steps.get(i).stands() ? 1 : 0;
            }
            return stand;
        }));
    }

    int month() {
        int best = 7;
        for (int place = 7; place >= 0; place--) {
            best = now.nailing(place) <= now.nailing(best) ? place : best;
        }
        return best;
    }

    int nail(int place) {
        return outside(place, 0, 7) ? -1 : now.nailing(place);
    }

    int byLaw(int law, int d, int nails) {
        return outside(law, 0, 2) || outside(nails, 0, 255) ? -1 : byList(d,
                list -> new Passing(now.under(law), list, in(nails)).odd().state.so.size());
    }

    private long z;

    private int draw(int below) {
        z = (z * 1103515245L + 12345L) & 0xFFFFFFFFL;
        return (int) ((z & 0x7FFFFFFFL) / 65536 % below);
    }

    int seeded(int n, int seed, int what) {
        if (outside(n, 1, 30) || outside(what, 0, 2)) {
            return -1;
        }
        if (now.deeds.isEmpty()) {
            return -3;
        }
        z = seed & 0xFFFFFFFFL;
        State state = now;
        int undone = 0;
        for (int pair = 0; pair < n; pair++) {
            int k = 1 + draw(4);
            List<Deed> list = new ArrayList<>();
            for (int i = 0; i < k; i++) {
                list.add(now.deeds.get(draw(now.deeds.size())));
            }
            Passing p = new Passing(state, list, in(draw(1 << k))).odd();
            state = p.state;
            undone += p.many(Step::gone);
        }
        return new int[] {bits(state.so), state.coins, undone}[what];
    }

    int judge(int d, int nails, int e) {
        return outside(nails, 0, 255) || outside(e, 0, 7) ? -1 : byList(d, list -> {
            if (shelves[e] == null) {
                return -11;
            }
            if (!(shelves[e] instanceof Row row)) {
                return -12;
            }
            List<Set<Integer>> told = pass(list, nails).told;
            for (int i = 0; i < row.elements.length; i++) {
                boolean right = i < told.size() && bits(told.get(i)) == row.elements[i];
                if (!right && row.elements[i] != row.least()) {
                    return i;
                }
            }
            return -4;
        });
    }

    int image() {
        image = now;
        return now.year;
    }

    int restore() {
        if (image == null) {
            return -3;
        }
        now = image;
        return now.year;
    }

    int count(int what) {
        return switch (what) {
            case 0 -> now.deeds.size();
            case 1 -> now.so.size();
            case 2 -> (int) now.deeds.stream().filter(now::may).count();
            case 3 -> (int) now.deeds.stream().filter(Deed::keeps).count();
            case 4 -> (int) now.deeds.stream().filter(x -> x.kind.equals("PULLED")).count();
            case 5 -> now.deeds.stream().mapToInt(Deed::pays).sum();
            default -> -1;
        };
    }

    int keep(int d, int what, int k) {
        if (outside(d, 0, 7) || outside(what, 0, 1) || what == 1 && noDeed(k)) {
            return -1;
        }
        shelves[d] = what == 0 ? null : now.deeds.get(k);
        return 0;
    }

    int row(int d, int sort, int n) {
        if (outside(d, 0, 7) || outside(sort, 0, 2) || n > 100) {
            return -1;
        }
        if (n < 0) {
            return -14;
        }
        shelves[d] = new Row(sort, new int[n]);
        return 0;
    }

    int put(int d, int i, int v) {
        if (outside(d, 0, 7)) {
            return -1;
        }
        if (shelves[d] == null) {
            return -11;
        }
        if (!(shelves[d] instanceof Row row)) {
            return -12;
        }
        if (outside(i, 0, row.elements.length - 1)) {
            return -13;
        }
        row.elements[i] = row.trimmed(v);
        return 0;
    }

    /** Thrown exceptions are told as numbers beyond every int. */
    long element(int d, int i) {
        if (outside(d, 0, 7)) {
            return Long.MAX_VALUE;
        }
        return shelves[d] instanceof Row row && !outside(i, 0, row.elements.length - 1)
                ? row.elements[i] : Long.MIN_VALUE;
    }

    int copy(int d, int i, int e, int j, int n) {
        if (outside(d, 0, 7) || outside(e, 0, 7)) {
            return -1;
        }
        if (shelves[d] == null || shelves[e] == null) {
            return -11;
        }
        if (!(shelves[d] instanceof Row from) || !(shelves[e] instanceof Row to) || from.sort != to.sort) {
            return -12;
        }
        if (n < 0 || i < 0 || j < 0 || (long) i + n > from.elements.length || (long) j + n > to.elements.length) {
            return -13;
        }
        int[] taken = Arrays.copyOfRange(from.elements, i, i + n);
        for (int k = 0; k < n; k++) {
            to.elements[j + k] = taken[k];
        }
        return n;
    }

    int care(int d) {
        if (outside(d, 0, 7)) {
            return -1;
        }
        return shelves[d] == null ? -11 : shelves[d] instanceof Deed deed ? deed.careAs(deed.kind) : -12;
    }

    int toss(int d) {
        if (outside(d, 0, 7)) {
            return -1;
        }
        return shelves[d] == null ? -11 : shelves[d] instanceof Deed deed ? deed.failure() : -12;
    }
}
