import java.util.List;
import java.util.Random;
import java.util.function.IntToLongFunction;

/** Long runs of calls, right and wrong ones, with {@link PlainModel} answering beside the class. */
public final class AgainstPlainModelTest {
    private static final Checks CHECKS = new Checks();
    private static final int RUNS = 180;
    // Behind 512 calls all answers are free; one turn makes nine calls at most.
    private static final int CALLS = 512 - 9;

    private final Random random;
    private final ExactShares2 asked;
    private final PlainModel model;
    private final int columns;
    private final int span;
    private final String run;

    private AgainstPlainModelTest(int run) {
        // The seed is the run's number, so that every run is the same each time.
        random = new Random(run);
        int given = run % 9;
        columns = Math.max(1, Math.min(6, given));
        // Small numbers make ties, great ones reach the bounds.
        span = run % 2 == 0 ? 3 : 100;
        asked = new ExactShares2(given);
        model = new PlainModel(columns);
        this.run = "run " + run + ": ";
    }

    public static void main(String[] args) {
        for (int run = 0; run < RUNS; run++) {
            AgainstPlainModelTest test = new AgainstPlainModelTest(run);
            int before = CHECKS.asked();
            while (CHECKS.asked() - before <= CALLS) {
                test.call();
            }
        }
        CHECKS.finish();
    }

    private void call() {
        switch (random.nextInt(24)) {
            case 0: leaf(); break;
            case 1: case 2: split(); break;
            case 3: root(); break;
            case 4: weight(); break;
            case 5: clear(); break;
            case 6: background(); break;
            case 7: case 8: case 9: case 10: item(); break;
            case 11: group(); break;
            case 12: answer(); break;
            case 13: value(); break;
            case 14: share(); break;
            case 15: both(); break;
            case 16: drawn(); break;
            case 17: partial(); break;
            case 18: worth(); break;
            case 19: rank(); break;
            case 20: bar(); break;
            default: nearest(); break;
        }
    }

    /** Mostly from 0 to below - 1, seldom one on either side, most seldom far outside. */
    private int near(int below) {
        switch (random.nextInt(40)) {
            case 0: return -1;
            case 1: return below;
            case 2: return Integer.MIN_VALUE;
            case 3: return Integer.MAX_VALUE;
            default: return below <= 0 ? 0 : random.nextInt(below);
        }
    }

    /** Mostly from -usual to usual, seldom at the bound or outside of it. */
    private int around(int usual, int bound) {
        switch (random.nextInt(40)) {
            case 0: return bound;
            case 1: return -bound;
            case 2: return bound + 1;
            case 3: return -bound - 1;
            case 4: return random.nextBoolean() ? Integer.MIN_VALUE : Integer.MAX_VALUE;
            default: return random.nextInt(2 * usual + 1) - usual;
        }
    }

    private static boolean isBelow(int number, int below) {
        return number >= 0 && number < below;
    }

    private static boolean isWithin(int number, int bound) {
        return number >= -bound && number <= bound;
    }

    private static boolean isPart(int part) {
        return part == 0 || part == 1;
    }

    private void due(String call, long got, long want) {
        CHECKS.due(run + call, got, want);
    }

    private void leaf() {
        int value = around(span * 10, 1000);
        int want = !isWithin(value, 1000) ? -2 : model.nodes.size() == 30 ? -4 : model.nodes.size();
        if (want >= 0) {
            model.nodes.add(new int[] {value});
        }
        due("leaf(" + value + ")", asked.leaf(value), want);
    }

    private void split() {
        int column = near(columns);
        int at = around(span, 100);
        int low = near(model.nodes.size());
        int high = near(model.nodes.size());
        int there = model.nodes.size();
        int want = there;
        if (!isBelow(column, columns) || !isBelow(low, there) || !isBelow(high, there)) {
            want = -1;
        } else if (!isWithin(at, 100)) {
            want = -2;
        } else if (there == 30) {
            want = -4;
        } else {
            model.nodes.add(new int[] {column, at, low, high});
        }
        String call = "split(" + column + ", " + at + ", " + low + ", " + high + ")";
        due(call, asked.split(column, at, low, high), want);
    }

    private void root() {
        // Late nodes are the deep ones.
        int node = random.nextInt(3) > 0 ? model.nodes.size() - 1 : near(model.nodes.size());
        int want = model.roots.size() + 1;
        if (!isBelow(node, model.nodes.size())) {
            want = -1;
        } else if (model.roots.size() == 4) {
            want = -4;
        } else {
            model.roots.add(node);
        }
        due("root(" + node + ")", asked.root(node), want);
    }

    private void weight() {
        int column = near(columns);
        int weight = around(Math.min(span, 20), 20);
        int want = !isBelow(column, columns) ? -1 : !isWithin(weight, 20) ? -2 : 1;
        if (want == 1) {
            model.weights[column] = weight;
        }
        due("weight(" + column + ", " + weight + ")", asked.weight(column, weight), want);
    }

    private void clear() {
        if (random.nextInt(6) == 0) {
            int want = model.nodes.size();
            model.forget();
            due("clear()", asked.clear(), want);
        }
    }

    private void background() {
        int want = model.background.size() == 5 ? -4 : model.background.size();
        if (want >= 0) {
            model.background.add(new int[columns]);
        }
        due("background()", asked.background(), want);
    }

    private void item() {
        int row = near(model.background.size() + 1) - 1;
        int column = near(columns);
        int v = around(span, 100);
        int want = 1;
        if (row < -1 || row >= model.background.size() || !isBelow(column, columns)) {
            want = -1;
        } else if (!isWithin(v, 100)) {
            want = -2;
        } else {
            (row == -1 ? model.row : model.background.get(row))[column] = v;
        }
        due("item(" + row + ", " + column + ", " + v + ")", asked.item(row, column, v), want);
    }

    private void group() {
        int column = near(columns);
        int group = near(columns);
        int want = -1;
        if (isBelow(column, columns)) {
            want = isBelow(group, columns) ? model.groups[column] : -2;
            if (want >= 0) {
                model.groups[column] = group;
            }
        }
        due("group(" + column + ", " + group + ")", asked.group(column, group), want);
    }

    private void answer() {
        int row = near(model.background.size() + 1) - 1;
        long want = ExactShares2.NOTHING;
        if (row >= -1 && row < model.background.size()) {
            want = model.answer(row == -1 ? model.row : model.background.get(row));
        }
        due("answer(" + row + ")", asked.answer(row), want);
    }

    /** What a call that tells a fraction owes, beside its own refusals. */
    private interface Telling {
        PlainModel.Fraction tell();
    }

    private void fraction(String call, boolean isRefused, IntToLongFunction ask, Telling want) {
        int part = near(2);
        String whole = call + " part " + part;
        if (isRefused || !isPart(part)) {
            due(whole, ask.applyAsLong(part), ExactShares2.NOTHING);
        } else if (model.background.isEmpty()) {
            CHECKS.dueArithmetic(run + whole, () -> ask.applyAsLong(part));
        } else {
            PlainModel.Fraction told = want.tell();
            due(whole + " above", ask.applyAsLong(0), told.above.longValueExact());
            due(whole + " below", ask.applyAsLong(1), told.below.longValueExact());
        }
    }

    private void value() {
        int set = near(1 << columns);
        fraction("value(" + set + ")", !isBelow(set, 1 << columns),
                part -> asked.value(set, part), () -> model.value(set));
    }

    private void share() {
        int column = near(columns);
        int manner = near(2);
        boolean isRefused = !isBelow(column, columns) || !isBelow(manner, 2);
        fraction("share(" + column + ", " + manner + ")", isRefused,
                part -> asked.share(column, manner, part),
                () -> manner == 0 ? model.shareByOrders(model.groups[column])
                        : model.shareBySets(model.groups[column]));
    }

    private void both() {
        int column = near(columns);
        int other = near(columns);
        boolean isRefused = !isBelow(column, columns) || !isBelow(other, columns)
                || model.groups[column] == model.groups[other];
        fraction("both(" + column + ", " + other + ")", isRefused,
                part -> asked.both(column, other, part),
                () -> model.together(model.groups[column], model.groups[other]));
    }

    private void drawn() {
        int column = near(columns);
        int seed = random.nextInt();
        int orders = near(20) + 1;
        boolean isRefused = !isBelow(column, columns) || orders < 1 || orders > 20;
        fraction("drawn(" + column + ", " + seed + ", " + orders + ")", isRefused,
                part -> asked.drawn(column, seed, orders, part),
                () -> model.drawn(model.groups[column], seed, orders));
    }

    private void partial() {
        int column = near(columns);
        int v = around(span, 100);
        boolean isRefused = !isBelow(column, columns) || !isWithin(v, 100);
        fraction("partial(" + column + ", " + v + ")", isRefused,
                part -> asked.partial(column, v, part), () -> model.partial(column, v));
    }

    private void worth() {
        int column = near(columns);
        fraction("worth(" + column + ")", !isBelow(column, columns),
                part -> asked.worth(column, part), () -> model.worth(column));
    }

    private void rank() {
        int place = near(model.there().size());
        int want = -1;
        if (isBelow(place, model.there().size())) {
            List<Integer> sorted = model.background.isEmpty() ? null : model.ranking();
            want = sorted == null ? -3 : sorted.get(place);
        }
        due("rank(" + place + ")", asked.rank(place), want);
    }

    private void bar() {
        int column = near(columns);
        boolean is = random.nextInt(3) == 0;
        int want = -1;
        if (isBelow(column, columns)) {
            want = model.barred[column] ? 1 : 0;
            model.barred[column] = is;
        }
        due("bar(" + column + ", " + is + ")", asked.bar(column, is), want);
    }

    private void nearest() {
        int goal = goal();
        int[] want = model.nearest(goal);
        due("nearest(" + goal + ")", asked.nearest(goal), want == null ? -3 : model.differing(want));
        for (int column = -1; column <= columns; column++) {
            boolean isNothing = want == null || !isBelow(column, columns);
            due("nearestAt(" + goal + ", " + column + ")", asked.nearestAt(goal, column),
                    isNothing ? ExactShares2.NOTHING : want[column]);
        }
    }

    private int goal() {
        switch (random.nextInt(20)) {
            case 0: return Integer.MIN_VALUE;
            case 1: return Integer.MAX_VALUE;
            case 2: return (int) model.answer(model.row);
            default: return (int) model.answer(model.row) + random.nextInt(span * 12);
        }
    }
}
