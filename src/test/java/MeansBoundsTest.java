/** Promises 11 to 17, each sentence that names a boundary, with the terms that it uses. */
public final class MeansBoundsTest {
    private static final Checks CHECKS = new Checks();
    private static final long NOTHING = ExactShares2.NOTHING;
    private static final int MIN = Integer.MIN_VALUE;
    private static final int MAX = Integer.MAX_VALUE;
    /** For each set of three columns a value; no two differences of neighbours are the same. */
    private static final int[] OF_SETS = {0, 1, 20, 300, -7, 50, 600, 1000};

    public static void main(String[] args) {
        partsAre0And1();
        allTellFractionsWithOneRow();
        allThrowWithoutBackground();
        allThrowAgainBehindClear();
        refusalsAreSaidBeforeTheThrow();
        fractionsAreToldInLowestTerms();
        whatIsBelowIsAbove0();
        nothingIsToldAs0Over1();

        valueNeedsASet();
        valueOfNoColumnIsThatOfTheBackground();
        valueOfAllColumnsIsThatOfTheRow();
        valueIsOverFiveRows();

        shareNeedsAColumn();
        shareNeedsAManner();
        shareOfTheOnlyGroup();
        shareOfSixGroups();
        shareKnowsNoGroupThatIsNotThere();

        bothNeedTwoColumns();
        bothNeedTwoGroups();
        bothOfTheOnlyTwoGroups();
        bothOfSixGroups();
        bothInEitherOrder();

        drawnNeedsAColumn();
        drawnOrdersAre1To20();
        drawnByOrdersThatAreKnown();
        drawnShiftsZerosIn();
        drawnGoesOnFromOrderToOrder();
        drawnTakesEverySeed();
        drawnBeginsAnewWithEachCall();
        drawnOfTheOnlyGroup();
        drawnLinesUpOnlyGroupsThatAreThere();

        partialNeedsAColumn();
        partialIs100AtMost();
        partialLeavesTheRowsAlone();

        worthNeedsAColumn();
        worthOfOneRowIs0();
        worthIsOverPairsOfFiveRows();
        worthAtItsBounds();

        rankNeedsAPlace();
        rankNeedsABackground();
        rankNoPlaceIsSaidBeforeNone();
        rankGoesBySizeWithoutSign();
        rankOfSeveralIsTheLeastGroup();
        rankOfTheOnlyGroup();
        CHECKS.finish();
    }

    /** One row of 0s behind a row of 1s; each set of columns has its value of OF_SETS. */
    private static ExactShares2 ofSets() {
        ExactShares2 x = new ExactShares2(3);
        for (int value : OF_SETS) {
            x.leaf(value);
        }
        // A tree of three storeys: column 2 at its head, column 1 below it, column 0 last.
        x.split(0, 0, 0, 1);
        x.split(0, 0, 2, 3);
        x.split(0, 0, 4, 5);
        x.split(0, 0, 6, 7);
        x.split(1, 0, 8, 9);
        x.split(1, 0, 10, 11);
        x.split(2, 0, 12, 13);
        x.root(14);
        Made.row(x, 1, 1, 1);
        x.background();
        return x;
    }

    /** Gives so much where all six columns are above 0; the row has 1s, a row of 0s is behind. */
    private static ExactShares2 allSix(int given) {
        ExactShares2 x = new ExactShares2(6);
        x.leaf(0);
        x.leaf(given);
        for (int column = 0; column < 6; column++) {
            x.split(column, 0, 0, column + 1);
        }
        x.root(7);
        Made.row(x, 1, 1, 1, 1, 1, 1);
        x.background();
        return x;
    }

    // ---- what all of them share

    private static void partsAre0And1() {
        ExactShares2 x = ofSets();
        for (int part : new int[] {MIN, -2, -1, 2, 3, MAX}) {
            CHECKS.due("value, part " + part, x.value(0, part), NOTHING);
            CHECKS.due("share, part " + part, x.share(0, 0, part), NOTHING);
            CHECKS.due("share by sets, part " + part, x.share(0, 1, part), NOTHING);
            CHECKS.due("both, part " + part, x.both(0, 1, part), NOTHING);
            CHECKS.due("drawn, part " + part, x.drawn(0, 0, 1, part), NOTHING);
            CHECKS.due("partial, part " + part, x.partial(0, 0, part), NOTHING);
            CHECKS.due("worth, part " + part, x.worth(0, part), NOTHING);
        }
        CHECKS.dueFraction("value, both parts", part -> x.value(7, part), 1000, 1);
    }

    private static void allTellFractionsWithOneRow() {
        ExactShares2 x = ofSets();
        CHECKS.dueTold("value", part -> x.value(0, part));
        CHECKS.dueTold("share", part -> x.share(0, 0, part));
        CHECKS.dueTold("share by sets", part -> x.share(0, 1, part));
        CHECKS.dueTold("both", part -> x.both(0, 1, part));
        CHECKS.dueTold("drawn", part -> x.drawn(0, 0, 1, part));
        CHECKS.dueTold("partial", part -> x.partial(0, 0, part));
        CHECKS.dueTold("worth", part -> x.worth(0, part));
    }

    private static void dueThrows(String state, ExactShares2 x) {
        for (int part = 0; part < 2; part++) {
            int asked = part;
            CHECKS.dueArithmetic(state + "value", () -> x.value(0, asked));
            CHECKS.dueArithmetic(state + "value of all", () -> x.value(7, asked));
            CHECKS.dueArithmetic(state + "share", () -> x.share(2, 0, asked));
            CHECKS.dueArithmetic(state + "share by sets", () -> x.share(2, 1, asked));
            CHECKS.dueArithmetic(state + "both", () -> x.both(0, 2, asked));
            CHECKS.dueArithmetic(state + "drawn", () -> x.drawn(2, 0, 1, asked));
            CHECKS.dueArithmetic(state + "drawn of 20", () -> x.drawn(2, 0, 20, asked));
            CHECKS.dueArithmetic(state + "partial", () -> x.partial(2, 100, asked));
            CHECKS.dueArithmetic(state + "worth", () -> x.worth(2, asked));
        }
    }

    private static void allThrowWithoutBackground() {
        dueThrows("new: ", new ExactShares2(3));
        dueThrows("without background: ", Made.withoutBackground());
    }

    private static void allThrowAgainBehindClear() {
        ExactShares2 x = ofSets();
        x.clear();
        dueThrows("cleared: ", x);
        x.background();
        CHECKS.dueFraction("a row again", part -> x.value(0, part), 0, 1);
    }

    private static void refusalsAreSaidBeforeTheThrow() {
        ExactShares2 x = new ExactShares2(2);
        CHECKS.dueNothing("value: no set", part -> x.value(4, part));
        CHECKS.due("value: no part", x.value(3, 2), NOTHING);
        CHECKS.due("value: neither", x.value(-1, -1), NOTHING);
        CHECKS.dueNothing("share: no column", part -> x.share(2, 0, part));
        CHECKS.dueNothing("share: no manner", part -> x.share(1, 2, part));
        CHECKS.due("share: no part", x.share(1, 1, 2), NOTHING);
        CHECKS.due("share: none of them", x.share(-1, -1, -1), NOTHING);
        CHECKS.dueNothing("both: no column", part -> x.both(2, 0, part));
        CHECKS.dueNothing("both: no other", part -> x.both(0, 2, part));
        CHECKS.due("both: no part", x.both(0, 1, 2), NOTHING);
        CHECKS.dueNothing("both: one group", part -> x.both(1, 1, part));
        CHECKS.due("both: one group, no part", x.both(1, 1, -1), NOTHING);
        CHECKS.dueNothing("both: the same that is no column", part -> x.both(2, 2, part));
        CHECKS.dueNothing("drawn: no column", part -> x.drawn(2, 0, 1, part));
        CHECKS.dueNothing("drawn: no orders", part -> x.drawn(1, 0, 0, part));
        CHECKS.dueNothing("drawn: too many orders", part -> x.drawn(1, 0, 21, part));
        CHECKS.due("drawn: no part", x.drawn(1, 0, 20, 2), NOTHING);
        CHECKS.due("drawn: none of them", x.drawn(-1, 0, 21, -1), NOTHING);
        CHECKS.dueNothing("partial: no column", part -> x.partial(2, 0, part));
        CHECKS.dueNothing("partial: outside", part -> x.partial(1, 101, part));
        CHECKS.dueNothing("partial: outside below", part -> x.partial(1, -101, part));
        CHECKS.due("partial: no part", x.partial(1, 100, 2), NOTHING);
        CHECKS.due("partial: none of them", x.partial(-1, 101, -1), NOTHING);
        CHECKS.dueNothing("worth: no column", part -> x.worth(2, part));
        CHECKS.due("worth: no part", x.worth(1, 2), NOTHING);
        CHECKS.due("worth: neither", x.worth(2, -1), NOTHING);
    }

    private static void fractionsAreToldInLowestTerms() {
        ExactShares2 x = Made.weighted(1);
        for (int row = 0; row < 4; row++) {
            x.background();
        }
        int[][] want = {{0, 1}, {1, 4}, {1, 2}, {3, 4}, {1, 1}, {5, 4}, {3, 2}, {7, 4}, {2, 1}};
        for (int sum = 0; sum <= 8; sum++) {
            x.item(3, 0, sum);
            CHECKS.dueFraction(sum + " over 4", part -> x.value(0, part), want[sum][0], want[sum][1]);
        }
    }

    private static void whatIsBelowIsAbove0() {
        ExactShares2 x = Made.weighted(-1);
        Made.behind(x, 0);
        Made.behind(x, 3);
        Made.row(x, 100);
        CHECKS.dueFraction("value", part -> x.value(0, part), -3, 2);
        CHECKS.dueFraction("share", part -> x.share(0, 0, part), -197, 2);
        CHECKS.dueFraction("share by sets", part -> x.share(0, 1, part), -197, 2);
        CHECKS.dueFraction("drawn", part -> x.drawn(0, 4, 3, part), -197, 2);
        CHECKS.dueFraction("partial", part -> x.partial(0, 7, part), -7, 1);
        CHECKS.dueFraction("worth", part -> x.worth(0, part), 9, 2);
        ExactShares2 six = allSix(-1);
        CHECKS.dueFraction("both", part -> six.both(5, 0, part), -1, 5);
    }

    private static void nothingIsToldAs0Over1() {
        ExactShares2 x = new ExactShares2(6);
        for (int row = 0; row < 5; row++) {
            x.background();
        }
        CHECKS.dueFraction("value of 0", part -> x.value(63, part), 0, 1);
        CHECKS.dueFraction("share of 0", part -> x.share(5, 0, part), 0, 1);
        CHECKS.dueFraction("share by sets of 0", part -> x.share(5, 1, part), 0, 1);
        CHECKS.dueFraction("both of 0", part -> x.both(5, 4, part), 0, 1);
        CHECKS.dueFraction("drawn of 0", part -> x.drawn(5, 9, 20, part), 0, 1);
        CHECKS.dueFraction("partial of 0", part -> x.partial(5, 100, part), 0, 1);
        CHECKS.dueFraction("worth of 0", part -> x.worth(5, part), 0, 1);
        x.weight(0, 1);
        x.item(0, 0, 7);
        x.item(1, 0, -7);
        CHECKS.dueFraction("a sum that is 0", part -> x.value(0, part), 0, 1);
    }

    // ---- promise 11

    private static void valueNeedsASet() {
        for (int columns = 1; columns <= 6; columns++) {
            ExactShares2 x = new ExactShares2(columns);
            x.background();
            int sets = 1 << columns;
            for (int set : new int[] {MIN, -1, sets, sets + 1, 64, MAX}) {
                CHECKS.dueNothing("value(" + set + ") of " + columns, part -> x.value(set, part));
            }
            CHECKS.dueFraction("value(0) of " + columns, part -> x.value(0, part), 0, 1);
            CHECKS.dueFraction("value of all " + columns, part -> x.value(sets - 1, part), 0, 1);
        }
    }

    private static void valueOfNoColumnIsThatOfTheBackground() {
        ExactShares2 x = Made.weighted(1, 10, 20);
        Made.row(x, 100, 100, 100);
        Made.behind(x, 3, 2, 1);
        CHECKS.dueFraction("value(0)", part -> x.value(0, part), 43, 1);
    }

    private static void valueOfAllColumnsIsThatOfTheRow() {
        ExactShares2 x = Made.weighted(1, 10, 20);
        Made.row(x, 3, 2, 1);
        Made.behind(x, 100, 100, 100);
        Made.behind(x, -100, 50, 0);
        CHECKS.dueFraction("value(7)", part -> x.value(7, part), 43, 1);
        CHECKS.dueFraction("value(4)", part -> x.value(4, part), 770, 1);
        CHECKS.dueFraction("value(3)", part -> x.value(3, part), 1023, 1);
    }

    private static void valueIsOverFiveRows() {
        ExactShares2 x = Made.weighted(1);
        int[][] want = {{1, 1}, {3, 2}, {7, 3}, {15, 4}, {31, 5}};
        for (int row = 0; row < 5; row++) {
            Made.behind(x, 1 << row);
            int[] mean = want[row];
            CHECKS.dueFraction((row + 1) + " rows", part -> x.value(0, part), mean[0], mean[1]);
        }
        x.background();
        CHECKS.dueFraction("a sixth is refused", part -> x.value(0, part), 31, 5);
    }

    // ---- promise 12

    private interface OfColumn {
        long ask(int column, int part);
    }

    private static void dueNeedsColumn(String call, OfColumn asking) {
        for (int column : new int[] {MIN, -1, 3, 4, 6, MAX}) {
            CHECKS.dueNothing(call + " of " + column, part -> asking.ask(column, part));
        }
        CHECKS.dueTold(call + " of 0", part -> asking.ask(0, part));
        CHECKS.dueTold(call + " of 2", part -> asking.ask(2, part));
    }

    private static void shareNeedsAColumn() {
        ExactShares2 x = ofSets();
        dueNeedsColumn("share", (column, part) -> x.share(column, 0, part));
        dueNeedsColumn("share by sets", (column, part) -> x.share(column, 1, part));
    }

    private static void shareNeedsAManner() {
        ExactShares2 x = ofSets();
        for (int manner : new int[] {MIN, -1, 2, 3, MAX}) {
            CHECKS.dueNothing("manner " + manner, part -> x.share(0, manner, part));
        }
        // Column 0 brings 1 first, 280 behind 1, 57 behind 2, 400 last; two orders begin or end so.
        CHECKS.dueFraction("manner 0", part -> x.share(0, 0, part), 2 + 280 + 57 + 800, 6);
        CHECKS.dueFraction("manner 1", part -> x.share(0, 1, part), (1 + 280 + 57 + 400) / 2, 2);
    }

    private static void shareOfTheOnlyGroup() {
        ExactShares2 one = Made.weighted(5);
        Made.row(one, 3);
        Made.behind(one, 1);
        CHECKS.dueFraction("one column", part -> one.share(0, 0, part), 10, 1);
        CHECKS.dueFraction("one column by sets", part -> one.share(0, 1, part), 10, 1);
        ExactShares2 six = allSix(7);
        for (int column = 0; column < 6; column++) {
            six.group(column, 4);
        }
        for (int column = 0; column < 6; column++) {
            int asked = column;
            CHECKS.dueFraction("six in one group", part -> six.share(asked, 0, part), 7, 1);
            CHECKS.dueFraction("the same by sets", part -> six.share(asked, 1, part), 7, 1);
        }
    }

    private static void shareOfSixGroups() {
        ExactShares2 x = allSix(1);
        for (int column = 0; column < 6; column++) {
            int asked = column;
            CHECKS.dueFraction("a sixth", part -> x.share(asked, 0, part), 1, 6);
            CHECKS.dueFraction("one set of 32", part -> x.share(asked, 1, part), 1, 32);
        }
        for (int row = 1; row < 5; row++) {
            Made.behind(x, 1, 1, 1, 1, 1, 1);
        }
        CHECKS.dueFraction("a sixth, with one row of five", part -> x.share(5, 0, part), 1, 30);
        CHECKS.dueFraction("one of 32, one of five", part -> x.share(5, 1, part), 1, 160);
    }

    private static void shareKnowsNoGroupThatIsNotThere() {
        ExactShares2 x = allSix(1);
        x.group(0, 3);
        x.group(5, 3);
        // Groups 1 to 4 are there: 0 and 5 count neither for orders nor for sets.
        CHECKS.dueFraction("a fourth", part -> x.share(0, 0, part), 1, 4);
        CHECKS.dueFraction("a fourth of another", part -> x.share(1, 0, part), 1, 4);
        CHECKS.dueFraction("one set of eight", part -> x.share(4, 1, part), 1, 8);
        CHECKS.dueFraction("two of four", part -> x.both(5, 1, part), 1, 3);
    }

    // ---- promise 13

    private static void bothNeedTwoColumns() {
        ExactShares2 x = ofSets();
        for (int column : new int[] {MIN, -1, 3, 4, 6, MAX}) {
            CHECKS.dueNothing("both(" + column + ", 0)", part -> x.both(column, 0, part));
            CHECKS.dueNothing("both(0, " + column + ")", part -> x.both(0, column, part));
            CHECKS.dueNothing("both(" + column + ") twice", part -> x.both(column, column, part));
        }
        CHECKS.dueTold("both(2, 0)", part -> x.both(2, 0, part));
        CHECKS.dueTold("both(0, 2)", part -> x.both(0, 2, part));
    }

    private static void bothNeedTwoGroups() {
        ExactShares2 x = ofSets();
        for (int column = 0; column < 3; column++) {
            int asked = column;
            CHECKS.dueNothing("both of one column", part -> x.both(asked, asked, part));
        }
        x.group(0, 1);
        CHECKS.dueNothing("both of one group", part -> x.both(0, 1, part));
        CHECKS.dueNothing("both of one group, turned", part -> x.both(1, 0, part));
        CHECKS.dueTold("both of two groups", part -> x.both(0, 2, part));
        x.group(1, 0);
        CHECKS.dueTold("both of groups that changed places", part -> x.both(0, 1, part));
        ExactShares2 one = Made.weighted(5);
        one.background();
        CHECKS.dueNothing("both of the only column", part -> one.both(0, 0, part));
    }

    private static void bothOfTheOnlyTwoGroups() {
        ExactShares2 x = ofSets();
        x.group(2, 1);
        // One order alone: all, less column 0, less columns 1 and 2, and none.
        CHECKS.dueFraction("two groups", part -> x.both(0, 1, part), 1000 - 1 - 600, 1);
        ExactShares2 two = Made.weighted(5, 6);
        Made.row(two, 1, 1);
        two.background();
        CHECKS.dueFraction("weights bring nothing together", part -> two.both(0, 1, part), 0, 1);
    }

    private static void bothOfSixGroups() {
        ExactShares2 x = allSix(1);
        CHECKS.dueFraction("last of five", part -> x.both(0, 5, part), 1, 5);
        for (int row = 1; row < 5; row++) {
            Made.behind(x, 1, 1, 1, 1, 1, 1);
        }
        CHECKS.dueFraction("last of five, one row of five", part -> x.both(0, 5, part), 1, 25);
    }

    private static void bothInEitherOrder() {
        ExactShares2 x = ofSets();
        // First: 300 - 1 - 20. Behind column 2: 1000 - 50 - 600 - 7.
        CHECKS.dueFraction("both(0, 1)", part -> x.both(0, 1, part), 311, 1);
        CHECKS.dueFraction("both(1, 0)", part -> x.both(1, 0, part), 311, 1);
    }

    // ---- promise 14

    private static void drawnNeedsAColumn() {
        ExactShares2 x = ofSets();
        dueNeedsColumn("drawn", (column, part) -> x.drawn(column, 1, 1, part));
    }

    private static void drawnOrdersAre1To20() {
        ExactShares2 x = ofSets();
        for (int orders : new int[] {MIN, -20, -1, 0, 21, 22, MAX}) {
            CHECKS.dueNothing(orders + " orders", part -> x.drawn(0, 1, orders, part));
        }
        for (int orders : new int[] {1, 2, 19, 20}) {
            CHECKS.dueTold(orders + " orders", part -> x.drawn(0, 1, orders, part));
        }
    }

    private static void dueDrawn(ExactShares2 x, int seed, int... brought) {
        for (int column = 0; column < brought.length; column++) {
            int asked = column;
            String call = "drawn(" + column + ", " + seed + ", 1)";
            CHECKS.dueFraction(call, part -> x.drawn(asked, seed, 1, part), brought[column], 1);
        }
    }

    private static void drawnByOrdersThatAreKnown() {
        ExactShares2 x = ofSets();
        // Seed 0: Z is 12345, 0 is drawn; then 0xd3dc167e, 54236, 0 below 2: order 1, 2, 0.
        dueDrawn(x, 0, 400, 20, 580);
        // Seed 1: 0x41c67ea6, 16838, 2 below 3; then 0x967eb0e7, 38526, 0 below 2: 1, 0, 2.
        dueDrawn(x, 1, 280, 20, 700);
        // Seed 99: 0x6fb08460, 28592, 2 below 3; then 0x18bdcd19, 6333, 1 below 2: 0, 1, 2.
        dueDrawn(x, 99, 1, 299, 700);
    }

    private static void drawnShiftsZerosIn() {
        ExactShares2 x = ofSets();
        // Seed 2: 0x838ccd13 is below 0, but 33676 is drawn, 1 below 3; then 22817, 1: 0, 2, 1.
        dueDrawn(x, 2, 1, 950, 49);
        // Seed -1: 0xbe39e1cc, 48697, 1 below 3; then 0x11397c15, 4409, 1 below 2: 0, 2, 1.
        dueDrawn(x, -1, 1, 950, 49);
    }

    private static void drawnGoesOnFromOrderToOrder() {
        ExactShares2 x = ofSets();
        // Seed 0 draws 1, 2, 0 and then, going on, from groups in a row again: 2, 1, 0.
        CHECKS.dueFraction("column 0", part -> x.drawn(0, 0, 2, part), 400, 1);
        CHECKS.dueFraction("column 1", part -> x.drawn(1, 0, 2, part), 20 + 607, 2);
        CHECKS.dueFraction("column 2", part -> x.drawn(2, 0, 2, part), 580 - 7, 2);
    }

    private static void drawnTakesEverySeed() {
        ExactShares2 x = ofSets();
        dueDrawn(x, MIN, 280, 20, 700);
        dueDrawn(x, MIN + 1, 57, 950, -7);
        dueDrawn(x, -2, 280, 20, 700);
        dueDrawn(x, MAX, 1, 299, 700);
    }

    private static void drawnBeginsAnewWithEachCall() {
        ExactShares2 x = ofSets();
        dueDrawn(x, 3, 1, 950, 49);
        x.drawn(0, 1234, 20, 0);
        dueDrawn(x, 3, 1, 950, 49);
    }

    private static void drawnOfTheOnlyGroup() {
        ExactShares2 x = ofSets();
        x.group(0, 2);
        x.group(1, 2);
        for (int seed : new int[] {MIN, -1, 0, 1, MAX}) {
            CHECKS.dueFraction("the only group, 1", part -> x.drawn(0, seed, 1, part), 1000, 1);
            CHECKS.dueFraction("the only group, 20", part -> x.drawn(1, seed, 20, part), 1000, 1);
        }
    }

    private static void drawnLinesUpOnlyGroupsThatAreThere() {
        ExactShares2 x = ofSets();
        x.group(0, 2);
        // Groups 1 and 2. Seed 0 draws 0 below 2, so that they change; seed 3 draws 1.
        CHECKS.dueFraction("2 first", part -> x.drawn(0, 0, 1, part), 50, 1);
        CHECKS.dueFraction("1 last", part -> x.drawn(1, 0, 1, part), 950, 1);
        CHECKS.dueFraction("1 first", part -> x.drawn(1, 3, 1, part), 20, 1);
        CHECKS.dueFraction("2 last", part -> x.drawn(2, 3, 1, part), 980, 1);
    }

    // ---- promise 15

    private static void partialNeedsAColumn() {
        ExactShares2 x = ofSets();
        dueNeedsColumn("partial", (column, part) -> x.partial(column, 0, part));
    }

    private static void partialIs100AtMost() {
        ExactShares2 x = Made.weighted(1, 1);
        Made.row(x, 50, 50);
        Made.behind(x, 3, 4);
        Made.behind(x, 5, 7);
        for (int v : new int[] {MIN, -102, -101, 101, 102, MAX}) {
            CHECKS.dueNothing("partial " + v, part -> x.partial(0, v, part));
        }
        CHECKS.dueFraction("partial 100", part -> x.partial(0, 100, part), 211, 2);
        CHECKS.dueFraction("partial -100", part -> x.partial(0, -100, part), -189, 2);
        CHECKS.dueFraction("partial 0", part -> x.partial(1, 0, part), 4, 1);
    }

    private static void partialLeavesTheRowsAlone() {
        ExactShares2 x = Made.roomy();
        x.partial(0, 100, 0);
        x.partial(2, -100, 1);
        CHECKS.dueSame("partial", Portrait.of(x, 3), Portrait.of(Made.roomy(), 3));
    }

    // ---- promise 16

    private static void worthNeedsAColumn() {
        ExactShares2 x = ofSets();
        dueNeedsColumn("worth", (column, part) -> x.worth(column, part));
    }

    private static void worthOfOneRowIs0() {
        ExactShares2 x = Made.weighted(20);
        Made.row(x, 100);
        Made.behind(x, -100);
        CHECKS.dueFraction("one row with itself", part -> x.worth(0, part), 0, 1);
    }

    private static void worthIsOverPairsOfFiveRows() {
        ExactShares2 x = Made.weighted(1);
        for (int row = 0; row < 5; row++) {
            Made.behind(x, row);
        }
        // Differences 1, 2, 3, 4 are there 4, 3, 2, 1 times, each both ways, among 25 pairs.
        CHECKS.dueFraction("five rows", part -> x.worth(0, part), 4, 1);
        x.item(4, 0, 5);
        CHECKS.dueFraction("the last one farther", part -> x.worth(0, part), 148, 25);
    }

    private static void worthAtItsBounds() {
        ExactShares2 x = Made.weighted(20);
        x.leaf(-1000);
        x.leaf(1000);
        x.split(0, 99, 0, 1);
        for (int root = 0; root < 4; root++) {
            x.root(2);
        }
        for (int row = 0; row < 5; row++) {
            Made.behind(x, row < 2 ? 100 : -100);
        }
        // A change of 12000 in 12 of the 25 pairs.
        CHECKS.dueFraction("the greatest", part -> x.worth(0, part), 69120000, 1);
    }

    // ---- promise 17

    private static void rankNeedsAPlace() {
        for (int columns = 1; columns <= 6; columns++) {
            ExactShares2 x = new ExactShares2(columns);
            x.background();
            for (int place : new int[] {MIN, -1, columns, columns + 1, MAX}) {
                CHECKS.due("rank(" + place + ") of " + columns, x.rank(place), -1);
            }
            CHECKS.due("rank(0) of " + columns, x.rank(0), 0);
            CHECKS.due("the last rank of " + columns, x.rank(columns - 1), columns - 1);
        }
    }

    private static void rankNeedsABackground() {
        ExactShares2 x = Made.weighted(1, 2, 3);
        for (int place = 0; place < 3; place++) {
            CHECKS.due("rank(" + place + ") without background", x.rank(place), -3);
        }
        x.background();
        CHECKS.due("rank(0) with a row", x.rank(0), 0);
        x.clear();
        CHECKS.due("rank(0) behind clear", x.rank(0), -3);
    }

    private static void rankNoPlaceIsSaidBeforeNone() {
        ExactShares2 x = new ExactShares2(3);
        CHECKS.due("rank(-1) without background", x.rank(-1), -1);
        CHECKS.due("rank(3) without background", x.rank(3), -1);
        CHECKS.due("rank(2) without background", x.rank(2), -3);
        x.group(1, 0);
        CHECKS.due("rank(2) of two groups, without background", x.rank(2), -1);
        CHECKS.due("rank(1) of two groups, without background", x.rank(1), -3);
    }

    private static void dueRanks(String name, ExactShares2 x, int... groups) {
        for (int place = 0; place < groups.length; place++) {
            CHECKS.due(name + ": rank(" + place + ")", x.rank(place), groups[place]);
        }
        CHECKS.due(name + ": no more", x.rank(groups.length), -1);
    }

    private static ExactShares2 ranked(int... weights) {
        ExactShares2 x = Made.weighted(weights);
        for (int column = 0; column < weights.length; column++) {
            x.item(-1, column, 1);
        }
        x.background();
        return x;
    }

    private static void rankGoesBySizeWithoutSign() {
        dueRanks("signs", ranked(-1, 2, -3, 4, -5, 6), 5, 4, 3, 2, 1, 0);
        dueRanks("below 0 only", ranked(-1, -3, -2), 1, 2, 0);
        dueRanks("0 is last", ranked(0, -1, 0, 1), 1, 3, 0, 2);
    }

    private static void rankOfSeveralIsTheLeastGroup() {
        dueRanks("all the same", ranked(-4, 4, 4, -4, 4, -4), 0, 1, 2, 3, 4, 5);
        dueRanks("in pairs", ranked(1, 2, -1, -2, 1, 2), 1, 3, 5, 0, 2, 4);
        ExactShares2 x = ranked(3, 3, 3);
        x.group(0, 2);
        x.group(2, 0);
        dueRanks("groups, not columns", x, 0, 1, 2);
        x.group(1, 2);
        dueRanks("two in one", x, 2, 0);
        x.weight(1, -3);
        dueRanks("two that are 0 together", x, 0, 2);
    }

    private static void rankOfTheOnlyGroup() {
        ExactShares2 x = ranked(0, 0, 0);
        for (int column = 0; column < 3; column++) {
            x.group(column, 1);
        }
        dueRanks("one group of 0", x, 1);
        dueRanks("one column", ranked(5), 0);
    }
}
