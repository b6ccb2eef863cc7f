import java.util.function.Supplier;
import java.util.function.ToLongFunction;

/**
 * "REFUSALS change nothing": each refused call is made on one of two like objects, and both show
 * the same then. So do calls that throw, and calls that only tell.
 */
public final class RefusalsChangeNothingTest {
    private static final Checks CHECKS = new Checks();
    private static final long NOTHING = ExactShares2.NOTHING;
    private static final int MIN = Integer.MIN_VALUE;
    private static final int MAX = Integer.MAX_VALUE;

    private static final State NEW = new State("new", 3, () -> new ExactShares2(3));
    private static final State ROOMY = new State("roomy", 3, Made::roomy);
    private static final State BARE = new State("without background", 3, Made::withoutBackground);
    private static final State FULL = new State("full", 6, Made::full);
    private static final State CLEARED = new State("cleared", 6, RefusalsChangeNothingTest::cleared);

    public static void main(String[] args) {
        likeObjectsShowTheSame();
        changesAreShown();
        leaf();
        split();
        root();
        weight();
        background();
        item();
        group();
        answer();
        fractions();
        callsThatThrow();
        callsThatTell();
        rank();
        bar();
        nearest();
        CHECKS.finish();
    }

    private record State(String name, int columns, Supplier<ExactShares2> maker) {
        ExactShares2 make() {
            return maker.get();
        }
    }

    private static ExactShares2 cleared() {
        ExactShares2 x = Made.full();
        x.clear();
        return x;
    }

    private static void refused(State state, String call, long due, ToLongFunction<ExactShares2> asking) {
        ExactShares2 x = state.make();
        String name = state.name() + ": " + call;
        CHECKS.due(name, asking.applyAsLong(x), due);
        dueUnchanged(state, name, x);
    }

    private static void dueUnchanged(State state, String name, ExactShares2 x) {
        int columns = state.columns();
        CHECKS.dueSame(name, Portrait.of(x, columns), Portrait.of(state.make(), columns));
    }

    private static void throwing(State state, String call, ToLongFunction<ExactShares2> asking) {
        ExactShares2 x = state.make();
        String name = state.name() + ": " + call;
        CHECKS.dueArithmetic(name, () -> asking.applyAsLong(x));
        dueUnchanged(state, name, x);
    }

    private static void likeObjectsShowTheSame() {
        for (State state : new State[] {NEW, ROOMY, BARE, FULL, CLEARED}) {
            dueUnchanged(state, state.name(), state.make());
        }
    }

    /** Or else the portraits would prove nothing: a call that is taken can be seen in them. */
    private static void changesAreShown() {
        seen("leaf", x -> x.leaf(1));
        seen("split", x -> x.split(0, 0, 0, 1));
        seen("root", x -> x.root(0));
        seen("background", ExactShares2::background);
        seen("clear", ExactShares2::clear);
        for (int column = 0; column < 3; column++) {
            int at = column;
            seen("weight", x -> x.weight(at, 2));
            seen("group", x -> x.group(at, at == 1 ? 1 : 2 - at));
            seen("bar", x -> x.bar(at, at != 2));
            for (int row = -1; row < 2; row++) {
                int of = row;
                seen("item", x -> x.item(of, at, 77));
            }
        }
    }

    private static void seen(String call, ToLongFunction<ExactShares2> asking) {
        ExactShares2 x = Made.roomy();
        asking.applyAsLong(x);
        boolean isSame = Portrait.of(x, 3).equals(Portrait.of(Made.roomy(), 3));
        CHECKS.due(call + " can be seen", isSame ? 0 : 1, 1);
    }

    private static void leaf() {
        for (State state : new State[] {NEW, ROOMY, FULL, CLEARED}) {
            for (int value : new int[] {MIN, -1001, 1001, MAX}) {
                refused(state, "leaf(" + value + ")", -2, x -> x.leaf(value));
            }
        }
        refused(FULL, "leaf without room", -4, x -> x.leaf(555));
    }

    private static void split() {
        refused(NEW, "split without nodes", -1, x -> x.split(0, 0, 0, 0));
        refused(CLEARED, "split without nodes", -1, x -> x.split(0, 0, 0, 0));
        refused(ROOMY, "split, no column", -1, x -> x.split(3, 0, 0, 1));
        refused(ROOMY, "split, column -1", -1, x -> x.split(-1, 0, 0, 1));
        refused(ROOMY, "split, no low", -1, x -> x.split(0, 0, 5, 1));
        refused(ROOMY, "split, low -1", -1, x -> x.split(0, 0, -1, 1));
        refused(ROOMY, "split, no high", -1, x -> x.split(0, 0, 1, 5));
        refused(ROOMY, "split, high -1", -1, x -> x.split(0, 0, 1, -1));
        refused(ROOMY, "split at 101", -2, x -> x.split(0, 101, 0, 1));
        refused(ROOMY, "split at -101", -2, x -> x.split(0, -101, 0, 1));
        refused(ROOMY, "split, no column, at 101", -1, x -> x.split(MAX, 101, 0, 1));
        refused(FULL, "split without room", -4, x -> x.split(0, 0, 0, 1));
        refused(FULL, "split at 101 without room", -2, x -> x.split(0, 101, 0, 1));
        refused(FULL, "split, no high, without room", -1, x -> x.split(0, 0, 0, 30));
    }

    private static void root() {
        refused(NEW, "root without nodes", -1, x -> x.root(0));
        refused(CLEARED, "root without nodes", -1, x -> x.root(0));
        refused(ROOMY, "root(5)", -1, x -> x.root(5));
        refused(ROOMY, "root(-1)", -1, x -> x.root(-1));
        refused(FULL, "root without room", -4, x -> x.root(3));
        refused(FULL, "root(30) without room", -1, x -> x.root(30));
    }

    private static void weight() {
        for (int weight : new int[] {MIN, -21, 21, MAX}) {
            refused(ROOMY, "weight(0, " + weight + ")", -2, x -> x.weight(0, weight));
            refused(FULL, "weight(5, " + weight + ")", -2, x -> x.weight(5, weight));
            refused(ROOMY, "weight(3, " + weight + ")", -1, x -> x.weight(3, weight));
        }
        for (int column : new int[] {MIN, -1, 3, MAX}) {
            refused(ROOMY, "weight(" + column + ", 1)", -1, x -> x.weight(column, 1));
        }
        refused(FULL, "weight(6, 1)", -1, x -> x.weight(6, 1));
    }

    private static void background() {
        refused(FULL, "background without room", -4, ExactShares2::background);
    }

    private static void item() {
        for (int row = -1; row < 2; row++) {
            int of = row;
            refused(ROOMY, "item(" + row + ", 0, 101)", -2, x -> x.item(of, 0, 101));
            refused(ROOMY, "item(" + row + ", 2, -101)", -2, x -> x.item(of, 2, -101));
            refused(ROOMY, "item(" + row + ", 3, 1)", -1, x -> x.item(of, 3, 1));
            refused(ROOMY, "item(" + row + ", -1, 1)", -1, x -> x.item(of, -1, 1));
            refused(ROOMY, "item(" + row + ", 3, 101)", -1, x -> x.item(of, 3, 101));
        }
        refused(NEW, "item(0, 0, 1)", -1, x -> x.item(0, 0, 1));
        refused(CLEARED, "item(0, 0, 1)", -1, x -> x.item(0, 0, 1));
        refused(ROOMY, "item(2, 0, 1)", -1, x -> x.item(2, 0, 1));
        refused(ROOMY, "item(-2, 0, 1)", -1, x -> x.item(-2, 0, 1));
        refused(ROOMY, "item(2, 0, 101)", -1, x -> x.item(2, 0, 101));
        refused(FULL, "item(5, 0, 1)", -1, x -> x.item(5, 0, 1));
        refused(FULL, "item(4, 6, 1)", -1, x -> x.item(4, 6, 1));
        refused(FULL, "item(4, 5, 101)", -2, x -> x.item(4, 5, 101));
    }

    private static void group() {
        refused(ROOMY, "group(3, 0)", -1, x -> x.group(3, 0));
        refused(ROOMY, "group(-1, 0)", -1, x -> x.group(-1, 0));
        refused(ROOMY, "group(0, 3)", -2, x -> x.group(0, 3));
        refused(ROOMY, "group(0, -1)", -2, x -> x.group(0, -1));
        refused(ROOMY, "group(3, 3)", -1, x -> x.group(3, 3));
        refused(FULL, "group(0, 6)", -2, x -> x.group(0, 6));
        refused(FULL, "group(6, 0)", -1, x -> x.group(6, 0));
    }

    private static void answer() {
        refused(NEW, "answer(0)", NOTHING, x -> x.answer(0));
        refused(ROOMY, "answer(2)", NOTHING, x -> x.answer(2));
        refused(ROOMY, "answer(-2)", NOTHING, x -> x.answer(-2));
        refused(FULL, "answer(5)", NOTHING, x -> x.answer(5));
    }

    private static void fractions() {
        for (State state : new State[] {BARE, ROOMY}) {
            refused(state, "value(8, 0)", NOTHING, x -> x.value(8, 0));
            refused(state, "value(0, 2)", NOTHING, x -> x.value(0, 2));
            refused(state, "share(3, 0, 0)", NOTHING, x -> x.share(3, 0, 0));
            refused(state, "share(0, 2, 0)", NOTHING, x -> x.share(0, 2, 0));
            refused(state, "share(0, 0, 2)", NOTHING, x -> x.share(0, 0, 2));
            refused(state, "both(3, 0, 0)", NOTHING, x -> x.both(3, 0, 0));
            refused(state, "both(0, 3, 0)", NOTHING, x -> x.both(0, 3, 0));
            refused(state, "both(1, 2, 0)", NOTHING, x -> x.both(1, 2, 0));
            refused(state, "both(0, 1, 2)", NOTHING, x -> x.both(0, 1, 2));
            refused(state, "drawn(3, 1, 1, 0)", NOTHING, x -> x.drawn(3, 1, 1, 0));
            refused(state, "drawn(0, 1, 0, 0)", NOTHING, x -> x.drawn(0, 1, 0, 0));
            refused(state, "drawn(0, 1, 21, 0)", NOTHING, x -> x.drawn(0, 1, 21, 0));
            refused(state, "drawn(0, 1, 1, 2)", NOTHING, x -> x.drawn(0, 1, 1, 2));
            refused(state, "partial(3, 0, 0)", NOTHING, x -> x.partial(3, 0, 0));
            refused(state, "partial(0, 101, 0)", NOTHING, x -> x.partial(0, 101, 0));
            refused(state, "partial(0, 0, 2)", NOTHING, x -> x.partial(0, 0, 2));
            refused(state, "worth(3, 0)", NOTHING, x -> x.worth(3, 0));
            refused(state, "worth(0, 2)", NOTHING, x -> x.worth(0, 2));
        }
    }

    private static void callsThatThrow() {
        for (State state : new State[] {NEW, BARE, CLEARED}) {
            throwing(state, "value", x -> x.value(7, 0));
            throwing(state, "share", x -> x.share(0, 0, 0));
            throwing(state, "share by sets", x -> x.share(0, 1, 1));
            throwing(state, "both", x -> x.both(0, 1, 0));
            throwing(state, "drawn", x -> x.drawn(0, 8, 20, 0));
            throwing(state, "partial", x -> x.partial(0, 100, 0));
            throwing(state, "worth", x -> x.worth(0, 0));
        }
    }

    private static void callsThatTell() {
        for (State state : new State[] {ROOMY, FULL}) {
            ExactShares2 x = state.make();
            x.answer(-1);
            x.answer(1);
            x.value(5, 0);
            x.share(2, 0, 1);
            x.share(2, 1, 0);
            x.both(0, 2, 1);
            x.drawn(2, 77, 20, 0);
            x.partial(2, -100, 1);
            x.worth(0, 0);
            x.rank(1);
            x.nearest(100);
            x.nearestAt(100, 2);
            dueUnchanged(state, state.name() + ": calls that tell", x);
        }
    }

    private static void rank() {
        // Columns 1 and 2 are of one group in both states.
        refused(BARE, "rank(1)", -3, x -> x.rank(1));
        refused(BARE, "rank(2)", -1, x -> x.rank(2));
        refused(ROOMY, "rank(2)", -1, x -> x.rank(2));
        refused(ROOMY, "rank(-1)", -1, x -> x.rank(-1));
        refused(FULL, "rank(6)", -1, x -> x.rank(6));
    }

    private static void bar() {
        for (boolean is : new boolean[] {false, true}) {
            refused(ROOMY, "bar(3, " + is + ")", -1, x -> x.bar(3, is));
            refused(ROOMY, "bar(-1, " + is + ")", -1, x -> x.bar(-1, is));
            refused(FULL, "bar(6, " + is + ")", -1, x -> x.bar(6, is));
        }
    }

    private static void nearest() {
        for (State state : new State[] {NEW, ROOMY, BARE, FULL, CLEARED}) {
            refused(state, "nearest(MAX)", -3, x -> x.nearest(MAX));
            refused(state, "nearestAt(MAX, 0)", NOTHING, x -> x.nearestAt(MAX, 0));
            refused(state, "nearestAt(MIN, 6)", NOTHING, x -> x.nearestAt(MIN, 6));
            refused(state, "nearestAt(MAX, -1)", NOTHING, x -> x.nearestAt(MAX, -1));
        }
    }
}
