/** Promises 1 to 6, each sentence that names a boundary, with the terms that it uses. */
public final class LearnerBoundsTest {
    private static final Checks CHECKS = new Checks();
    private static final long NOTHING = ExactShares2.NOTHING;
    private static final int MIN = Integer.MIN_VALUE;
    private static final int MAX = Integer.MAX_VALUE;

    public static void main(String[] args) {
        newOfANumberBelow1HasOneColumn();
        newOfANumberAbove6HasSixColumns();
        newOfANumberFrom1To6HasSoMany();
        newHasNoNodes();
        newHasNoRoots();
        newHasNoBackground();
        newHasWeightsOf0AndARowOf0s();
        newHasEachColumnInItsOwnGroup();
        newHasNothingBarred();
        newAnswers512Calls();

        leafValuesAre1000AtMost();
        leafNumbersRiseFrom0();
        leafHasNoRoomBehindThirtyNodes();
        leafOutsideIsSaidBeforeNoRoom();

        splitNeedsAColumn();
        splitNeedsALowNodeThatWasThereBefore();
        splitNeedsAHighNodeThatWasThereBefore();
        splitAtIs100AtMost();
        splitHasNoRoomBehindThirtyNodes();
        splitSaysTheFirstOfSeveralRefusals();
        splitGivesLowUpToAt();
        splitAtItsBounds();
        splitMayHaveOneNodeTwice();
        splitsInAChainOfThirty();

        rootNeedsANode();
        rootHasNoRoomBehindFour();
        rootMayBeThereTwice();
        rootNoNodeIsSaidBeforeNoRoom();

        weightNeedsAColumn();
        weightIs20AtMost();
        weightNoColumnIsSaidBeforeOutside();
        weightTakesThePlaceOfTheOneBefore();

        clearTellsHowManyNodesThereWere();
        clearLeavesNoNodes();
        clearLeavesNoRoots();
        clearLeavesNoBackground();
        clearLeavesWeightsOf0();
        clearLeavesTheRowWith0s();
        clearLeavesGroupsAsAtFirst();
        clearLeavesNothingBarred();
        clearLeavesTheNumberOfColumns();
        clearLeavesAnObjectLikeANewOne();
        CHECKS.finish();
    }

    // ---- promise 1

    /** Every call that names a column takes 0 and c - 1, and refuses -1 and c. */
    private static void dueColumns(String made, ExactShares2 x, int columns) {
        x.leaf(0);
        x.background();
        for (int column : new int[] {0, columns - 1}) {
            String at = made + ", column " + column + ": ";
            CHECKS.due(at + "split", x.split(column, 0, 0, 0) > 0 ? 1 : 0, 1);
            CHECKS.due(at + "weight", x.weight(column, 0), 1);
            CHECKS.due(at + "item", x.item(0, column, 0), 1);
            CHECKS.due(at + "group", x.group(column, column), column);
            CHECKS.due(at + "group 0", x.group(0, column), 0);
            CHECKS.due(at + "group 0 back", x.group(0, 0), column);
            CHECKS.dueFraction(at + "share", part -> x.share(column, 0, part), 0, 1);
            CHECKS.dueFraction(at + "drawn", part -> x.drawn(column, 0, 1, part), 0, 1);
            CHECKS.dueFraction(at + "partial", part -> x.partial(column, 0, part), 0, 1);
            CHECKS.dueFraction(at + "worth", part -> x.worth(column, part), 0, 1);
            CHECKS.due(at + "rank", x.rank(column), column);
            CHECKS.due(at + "bar", x.bar(column, false), 0);
            CHECKS.due(at + "nearestAt", x.nearestAt(0, column), 0);
        }
        for (int column : new int[] {MIN, -1, columns, columns + 1, MAX}) {
            String at = made + ", no column " + column + ": ";
            CHECKS.due(at + "split", x.split(column, 0, 0, 0), -1);
            CHECKS.due(at + "weight", x.weight(column, 0), -1);
            CHECKS.due(at + "item", x.item(0, column, 0), -1);
            CHECKS.due(at + "group", x.group(column, 0), -1);
            CHECKS.due(at + "no such group", x.group(0, column), -2);
            CHECKS.dueNothing(at + "share", part -> x.share(column, 0, part));
            CHECKS.dueNothing(at + "both", part -> x.both(column, 0, part));
            CHECKS.dueNothing(at + "drawn", part -> x.drawn(column, 0, 1, part));
            CHECKS.dueNothing(at + "partial", part -> x.partial(column, 0, part));
            CHECKS.dueNothing(at + "worth", part -> x.worth(column, part));
            CHECKS.due(at + "rank", x.rank(column), -1);
            CHECKS.due(at + "bar", x.bar(column, false), -1);
            CHECKS.due(at + "nearestAt", x.nearestAt(0, column), NOTHING);
        }
        CHECKS.dueFraction(made + ": the set of all", part -> x.value((1 << columns) - 1, part), 0, 1);
        CHECKS.dueNothing(made + ": no such set", part -> x.value(1 << columns, part));
    }

    private static void newOfANumberBelow1HasOneColumn() {
        for (int asked : new int[] {MIN, MIN + 1, -7, -6, -1, 0}) {
            dueColumns("new(" + asked + ")", new ExactShares2(asked), 1);
        }
    }

    private static void newOfANumberAbove6HasSixColumns() {
        for (int asked : new int[] {7, 8, 64, 1 << 16, MAX}) {
            dueColumns("new(" + asked + ")", new ExactShares2(asked), 6);
        }
    }

    private static void newOfANumberFrom1To6HasSoMany() {
        for (int asked = 1; asked <= 6; asked++) {
            dueColumns("new(" + asked + ")", new ExactShares2(asked), asked);
        }
    }

    private static void newHasNoNodes() {
        ExactShares2 x = new ExactShares2(2);
        CHECKS.due("new: root(0)", x.root(0), -1);
        CHECKS.due("new: split", x.split(0, 0, 0, 0), -1);
        CHECKS.due("new: clear", x.clear(), 0);
        CHECKS.due("new: first leaf", x.leaf(0), 0);
    }

    private static void newHasNoRoots() {
        ExactShares2 x = new ExactShares2(2);
        x.leaf(77);
        CHECKS.due("new: a node is no root by itself", x.answer(-1), 0);
        CHECKS.due("new: first root", x.root(0), 1);
    }

    private static void newHasNoBackground() {
        ExactShares2 x = new ExactShares2(2);
        CHECKS.due("new: answer(0)", x.answer(0), NOTHING);
        CHECKS.due("new: item(0)", x.item(0, 0, 0), -1);
        CHECKS.due("new: rank(0)", x.rank(0), -3);
        CHECKS.dueArithmetic("new: value", () -> x.value(0, 0));
        CHECKS.due("new: first row", x.background(), 0);
    }

    private static void newHasWeightsOf0AndARowOf0s() {
        ExactShares2 row = Made.weighted(20, 20, 20, 20, 20, 20);
        CHECKS.due("new: the row is 0s", row.answer(-1), 0);
        ExactShares2 weights = new ExactShares2(6);
        Made.row(weights, 100, 100, 100, 100, 100, 100);
        CHECKS.due("new: weights are 0", weights.answer(-1), 0);
    }

    private static void newHasEachColumnInItsOwnGroup() {
        ExactShares2 x = new ExactShares2(6);
        for (int column = 0; column < 6; column++) {
            CHECKS.due("new: group of " + column, x.group(column, 0), column);
        }
    }

    private static void newHasNothingBarred() {
        ExactShares2 x = new ExactShares2(6);
        for (int column = 0; column < 6; column++) {
            CHECKS.due("new: bar of " + column, x.bar(column, true), 0);
        }
    }

    private static void newAnswers512Calls() {
        ExactShares2 x = new ExactShares2(1);
        x.weight(0, 20);
        x.background();
        for (int call = 2; call < 511; call++) {
            x.item(0, 0, call % 201 - 100);
        }
        // The last item is 510 % 201 - 100, that is 8.
        CHECKS.due("the 512th call", x.value(0, 0), 160);
    }

    // ---- promise 2

    private static void leafValuesAre1000AtMost() {
        for (int value : new int[] {-1000, -999, 0, 999, 1000}) {
            ExactShares2 x = new ExactShares2(1);
            CHECKS.due("leaf(" + value + ")", x.leaf(value), 0);
            x.root(0);
            CHECKS.due("leaf(" + value + ") gives it", x.answer(-1), value);
        }
        for (int value : new int[] {MIN, MIN + 1000, -1001, 1001, MAX - 1000, MAX}) {
            ExactShares2 x = new ExactShares2(1);
            CHECKS.due("leaf(" + value + ")", x.leaf(value), -2);
            CHECKS.due("leaf(" + value + ") is no node", x.root(0), -1);
        }
    }

    private static void leafNumbersRiseFrom0() {
        ExactShares2 x = new ExactShares2(1);
        CHECKS.due("leaf 0", x.leaf(0), 0);
        CHECKS.due("a refused leaf", x.leaf(1001), -2);
        CHECKS.due("leaf 1: a refused one takes no number", x.leaf(0), 1);
        CHECKS.due("split 2", x.split(0, 0, 0, 1), 2);
        CHECKS.due("leaf 3: splits are numbered with leaves", x.leaf(0), 3);
    }

    private static ExactShares2 withLeaves(int count) {
        ExactShares2 x = new ExactShares2(1);
        for (int leaf = 0; leaf < count; leaf++) {
            x.leaf(leaf);
        }
        return x;
    }

    private static void leafHasNoRoomBehindThirtyNodes() {
        ExactShares2 x = withLeaves(29);
        CHECKS.due("the thirtieth leaf", x.leaf(-1000), 29);
        CHECKS.due("a leaf without room", x.leaf(5), -4);
        CHECKS.due("a leaf without room again", x.leaf(-1000), -4);
        CHECKS.due("there is no node 30", x.root(30), -1);
        x.root(29);
        CHECKS.due("node 29 is as it was", x.answer(-1), -1000);
        CHECKS.due("thirty nodes", x.clear(), 30);
        CHECKS.due("room behind clear", x.leaf(5), 0);
    }

    private static void leafOutsideIsSaidBeforeNoRoom() {
        ExactShares2 x = withLeaves(30);
        for (int value : new int[] {MIN, -1001, 1001, MAX}) {
            CHECKS.due("leaf(" + value + ") without room", x.leaf(value), -2);
        }
        CHECKS.due("leaf(1000) without room", x.leaf(1000), -4);
        CHECKS.due("leaf(-1000) without room", x.leaf(-1000), -4);
    }

    // ---- promise 3

    private static ExactShares2 twoLeaves() {
        ExactShares2 x = new ExactShares2(3);
        x.leaf(1);
        x.leaf(2);
        return x;
    }

    private static void splitNeedsAColumn() {
        ExactShares2 x = twoLeaves();
        for (int column : new int[] {MIN, -1, 3, 6, MAX}) {
            CHECKS.due("split(" + column + ", ..)", x.split(column, 0, 0, 1), -1);
        }
        CHECKS.due("split(0, ..)", x.split(0, 0, 0, 1), 2);
        CHECKS.due("split(2, ..)", x.split(2, 0, 0, 1), 3);
    }

    private static void splitNeedsALowNodeThatWasThereBefore() {
        ExactShares2 x = twoLeaves();
        // 2 would be the split's own number.
        for (int low : new int[] {MIN, -1, 2, 3, 29, 30, MAX}) {
            CHECKS.due("split low " + low, x.split(0, 0, low, 1), -1);
        }
        CHECKS.due("split low 0", x.split(0, 0, 0, 1), 2);
        CHECKS.due("split low 2, now that it is there", x.split(0, 0, 2, 1), 3);
        CHECKS.due("split low 4", x.split(0, 0, 4, 1), -1);
    }

    private static void splitNeedsAHighNodeThatWasThereBefore() {
        ExactShares2 x = twoLeaves();
        for (int high : new int[] {MIN, -1, 2, 3, 29, 30, MAX}) {
            CHECKS.due("split high " + high, x.split(0, 0, 1, high), -1);
        }
        CHECKS.due("split high 0", x.split(0, 0, 1, 0), 2);
        CHECKS.due("split high 2, now that it is there", x.split(0, 0, 1, 2), 3);
        CHECKS.due("split high 4", x.split(0, 0, 1, 4), -1);
    }

    private static void splitAtIs100AtMost() {
        ExactShares2 x = twoLeaves();
        for (int at : new int[] {MIN, MIN + 100, -101, 101, MAX - 100, MAX}) {
            CHECKS.due("split at " + at, x.split(0, at, 0, 1), -2);
        }
        CHECKS.due("split at -100", x.split(0, -100, 0, 1), 2);
        CHECKS.due("split at 100", x.split(0, 100, 0, 1), 3);
        CHECKS.due("split at 0", x.split(0, 0, 0, 1), 4);
    }

    private static void splitHasNoRoomBehindThirtyNodes() {
        ExactShares2 x = withLeaves(29);
        CHECKS.due("the thirtieth node", x.split(0, 0, 28, 27), 29);
        CHECKS.due("a split without room", x.split(0, 0, 3, 4), -4);
        CHECKS.due("a split of the last node without room", x.split(0, 0, 29, 29), -4);
        x.root(29);
        CHECKS.due("node 29 is as it was", x.answer(-1), 28);
        CHECKS.due("thirty nodes", x.clear(), 30);
    }

    private static void splitSaysTheFirstOfSeveralRefusals() {
        ExactShares2 x = twoLeaves();
        CHECKS.due("no column, outside", x.split(3, 101, 0, 1), -1);
        CHECKS.due("no low, outside", x.split(0, 101, 2, 1), -1);
        CHECKS.due("no high, outside", x.split(0, -101, 0, 2), -1);
        CHECKS.due("no column, no low, no high, outside", x.split(-1, -101, -1, -1), -1);
        ExactShares2 full = withLeaves(30);
        CHECKS.due("no column, no room", full.split(1, 0, 0, 1), -1);
        CHECKS.due("no low, no room", full.split(0, 0, 30, 1), -1);
        CHECKS.due("no high, no room", full.split(0, 0, 0, 30), -1);
        CHECKS.due("outside, no room", full.split(0, 101, 0, 29), -2);
        CHECKS.due("outside below, no room", full.split(0, -101, 29, 0), -2);
        CHECKS.due("no column, outside, no room", full.split(-1, 101, 0, 1), -1);
        CHECKS.due("no high, outside, no room", full.split(0, 101, 0, -1), -1);
        CHECKS.due("no room alone", full.split(0, 100, 29, 0), -4);
    }

    private static void splitGivesLowUpToAt() {
        ExactShares2 x = Made.step(7, -5, 6);
        int[] items = {-100, 6, 7, 8, 100};
        int[] want = {-5, -5, -5, 6, 6};
        for (int i = 0; i < items.length; i++) {
            x.item(-1, 0, items[i]);
            CHECKS.due("AT is 7, the row has " + items[i], x.answer(-1), want[i]);
        }
    }

    private static void splitAtItsBounds() {
        ExactShares2 top = Made.step(100, 1, 2);
        top.item(-1, 0, 100);
        CHECKS.due("AT is 100, the row has 100", top.answer(-1), 1);
        ExactShares2 bottom = Made.step(-100, 1, 2);
        bottom.item(-1, 0, -100);
        CHECKS.due("AT is -100, the row has -100", bottom.answer(-1), 1);
        bottom.item(-1, 0, -99);
        CHECKS.due("AT is -100, the row has -99", bottom.answer(-1), 2);
    }

    private static void splitMayHaveOneNodeTwice() {
        ExactShares2 x = twoLeaves();
        CHECKS.due("low is high", x.split(1, 0, 1, 1), 2);
        x.root(2);
        CHECKS.due("low is high, low", x.answer(-1), 2);
        x.item(-1, 1, 1);
        CHECKS.due("low is high, high", x.answer(-1), 2);
    }

    private static void splitsInAChainOfThirty() {
        ExactShares2 x = Made.step(0, 3, 900);
        for (int node = 3; node < 30; node++) {
            CHECKS.due("a chain", x.split(0, node, node - 1, 1), node);
        }
        x.root(29);
        CHECKS.due("down the whole chain", x.answer(-1), 6);
        x.item(-1, 0, 30);
        CHECKS.due("out at its head", x.answer(-1), 1800);
    }

    // ---- promise 4

    private static void rootNeedsANode() {
        ExactShares2 x = withLeaves(30);
        for (int node : new int[] {MIN, -1, 30, 31, MAX}) {
            CHECKS.due("root(" + node + ") of thirty", x.root(node), -1);
        }
        CHECKS.due("root(29)", x.root(29), 1);
        CHECKS.due("root(0)", x.root(0), 2);
        CHECKS.due("the two give", x.answer(-1), 29);
        ExactShares2 two = withLeaves(2);
        CHECKS.due("root(2) of two", two.root(2), -1);
        CHECKS.due("root(1) of two", two.root(1), 1);
        ExactShares2 none = withLeaves(0);
        CHECKS.due("root(0) of none", none.root(0), -1);
    }

    private static void rootHasNoRoomBehindFour() {
        ExactShares2 x = withLeaves(9);
        for (int root = 1; root <= 4; root++) {
            CHECKS.due("root " + root, x.root(root), root);
            CHECKS.due("a refused root takes no room", x.root(9), -1);
        }
        CHECKS.due("a fifth root", x.root(8), -4);
        CHECKS.due("a fifth root that is there", x.root(1), -4);
        CHECKS.due("the four are as they were", x.answer(-1), 10);
    }

    private static void rootMayBeThereTwice() {
        ExactShares2 x = withLeaves(9);
        for (int times = 1; times <= 4; times++) {
            CHECKS.due("the same root", x.root(8), times);
            CHECKS.due("it gives again", x.answer(-1), 8 * times);
        }
    }

    private static void rootNoNodeIsSaidBeforeNoRoom() {
        ExactShares2 x = withLeaves(2);
        for (int root = 0; root < 4; root++) {
            x.root(1);
        }
        for (int node : new int[] {MIN, -1, 2, MAX}) {
            CHECKS.due("root(" + node + ") without room", x.root(node), -1);
        }
        CHECKS.due("root(0) without room", x.root(0), -4);
    }

    // ---- promise 5

    private static void weightNeedsAColumn() {
        ExactShares2 x = new ExactShares2(5);
        for (int column : new int[] {MIN, -1, 5, 6, MAX}) {
            CHECKS.due("weight(" + column + ", 1)", x.weight(column, 1), -1);
        }
        CHECKS.due("weight(0, 1)", x.weight(0, 1), 1);
        CHECKS.due("weight(4, 1)", x.weight(4, 1), 1);
    }

    private static void weightIs20AtMost() {
        ExactShares2 x = new ExactShares2(1);
        x.item(-1, 0, 100);
        for (int weight : new int[] {-20, -19, 0, 19, 20}) {
            CHECKS.due("weight(0, " + weight + ")", x.weight(0, weight), 1);
            CHECKS.due("times 100", x.answer(-1), 100 * weight);
        }
        for (int weight : new int[] {MIN, MIN + 20, -21, 21, MAX - 20, MAX}) {
            CHECKS.due("weight(0, " + weight + ")", x.weight(0, weight), -2);
            CHECKS.due("times 100 as before", x.answer(-1), 2000);
        }
    }

    private static void weightNoColumnIsSaidBeforeOutside() {
        ExactShares2 x = new ExactShares2(2);
        CHECKS.due("weight(2, 21)", x.weight(2, 21), -1);
        CHECKS.due("weight(-1, -21)", x.weight(-1, -21), -1);
        CHECKS.due("weight(1, 21)", x.weight(1, 21), -2);
    }

    private static void weightTakesThePlaceOfTheOneBefore() {
        ExactShares2 x = new ExactShares2(1);
        x.item(-1, 0, 1);
        x.weight(0, 20);
        CHECKS.due("weight again", x.weight(0, 20), 1);
        CHECKS.due("not 40", x.answer(-1), 20);
        x.weight(0, 0);
        CHECKS.due("0 again", x.answer(-1), 0);
    }

    // ---- promise 6

    private static void clearTellsHowManyNodesThereWere() {
        for (int nodes : new int[] {0, 1, 2, 29, 30}) {
            ExactShares2 x = withLeaves(nodes);
            x.leaf(1001);
            x.split(0, 101, 0, 0);
            CHECKS.due("clear of " + nodes, x.clear(), nodes);
            CHECKS.due("clear of a cleared one", x.clear(), 0);
        }
        ExactShares2 splits = Made.step(0, 1, 2);
        CHECKS.due("splits are counted", splits.clear(), 3);
    }

    private static void clearLeavesNoNodes() {
        ExactShares2 x = withLeaves(30);
        x.clear();
        CHECKS.due("cleared: root(0)", x.root(0), -1);
        CHECKS.due("cleared: root(29)", x.root(29), -1);
        CHECKS.due("cleared: split", x.split(0, 0, 0, 0), -1);
        for (int node = 0; node < 30; node++) {
            CHECKS.due("cleared: room again", x.leaf(node), node);
        }
        CHECKS.due("cleared: no more room", x.leaf(0), -4);
    }

    private static void clearLeavesNoRoots() {
        ExactShares2 x = withLeaves(2);
        for (int root = 0; root < 4; root++) {
            x.root(1);
        }
        x.clear();
        CHECKS.due("cleared: no root gives", x.answer(-1), 0);
        x.leaf(50);
        x.leaf(60);
        CHECKS.due("cleared: new nodes are no roots", x.answer(-1), 0);
        for (int root = 1; root <= 4; root++) {
            CHECKS.due("cleared: roots again", x.root(0), root);
        }
        CHECKS.due("cleared: no fifth", x.root(0), -4);
    }

    private static void clearLeavesNoBackground() {
        ExactShares2 x = Made.full();
        x.clear();
        CHECKS.due("cleared: answer(0)", x.answer(0), NOTHING);
        CHECKS.due("cleared: answer(4)", x.answer(4), NOTHING);
        CHECKS.due("cleared: item(0)", x.item(0, 0, 1), -1);
        CHECKS.due("cleared: rank(0)", x.rank(0), -3);
        CHECKS.dueArithmetic("cleared: value", () -> x.value(0, 0));
        Made.weights(x, 20, 20, 20, 20, 20, 20);
        for (int row = 0; row < 5; row++) {
            CHECKS.due("cleared: rows again", x.background(), row);
            CHECKS.due("cleared: of 0s", x.answer(row), 0);
        }
        CHECKS.due("cleared: no sixth", x.background(), -4);
    }

    private static void clearLeavesWeightsOf0() {
        ExactShares2 x = Made.weighted(1, -2, 3, -4, 5, 20);
        x.clear();
        Made.row(x, 100, 100, 100, 100, 100, 100);
        CHECKS.due("cleared: weights", x.answer(-1), 0);
        for (int column = 0; column < 6; column++) {
            x.item(-1, column, 99);
            CHECKS.due("cleared: weight of " + column, x.answer(-1), 0);
        }
    }

    private static void clearLeavesTheRowWith0s() {
        ExactShares2 x = new ExactShares2(6);
        Made.row(x, 1, 2, 3, 4, 5, 100);
        x.clear();
        for (int column = 0; column < 6; column++) {
            x.weight(column, 20);
            CHECKS.due("cleared: the row at " + column, x.answer(-1), 0);
        }
    }

    private static void clearLeavesGroupsAsAtFirst() {
        ExactShares2 x = new ExactShares2(6);
        for (int column = 0; column < 6; column++) {
            x.group(column, 5 - column);
        }
        x.clear();
        for (int column = 0; column < 6; column++) {
            CHECKS.due("cleared: group of " + column, x.group(column, 0), column);
        }
    }

    private static void clearLeavesNothingBarred() {
        ExactShares2 x = new ExactShares2(6);
        for (int column = 0; column < 6; column++) {
            x.bar(column, true);
        }
        x.clear();
        for (int column = 0; column < 6; column++) {
            CHECKS.due("cleared: bar of " + column, x.bar(column, false), 0);
        }
    }

    private static void clearLeavesTheNumberOfColumns() {
        for (int columns = 1; columns <= 6; columns++) {
            ExactShares2 x = new ExactShares2(columns);
            x.clear();
            dueColumns("cleared new(" + columns + ")", x, columns);
        }
    }

    private static void clearLeavesAnObjectLikeANewOne() {
        ExactShares2 full = Made.full();
        full.clear();
        CHECKS.dueSame("full, cleared", Portrait.of(full, 6), Portrait.of(new ExactShares2(6), 6));
        ExactShares2 roomy = Made.roomy();
        roomy.clear();
        CHECKS.dueSame("roomy, cleared", Portrait.of(roomy, 3), Portrait.of(new ExactShares2(3), 3));
    }
}
