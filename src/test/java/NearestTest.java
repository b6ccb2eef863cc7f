/** Promises 18 to 20: bar, nearest, nearestAt. */
public final class NearestTest {
    private static final Checks CHECKS = new Checks();

    public static void main(String[] args) {
        bar();
        withoutBackground();
        fewestColumnsFirst();
        leastSumThen();
        lessAtTheFirstColumnThen();
        barredColumnsStay();
        columnsMixRows();
        atTheEdgeOfASplit();
        nodesThatCannotBothBeHad();
        noneAndNoColumn();
        CHECKS.finish();
    }

    private static void dueRow(String name, ExactShares2 x, int goal, int differs, int... row) {
        CHECKS.due(name + ": nearest(" + goal + ")", x.nearest(goal), differs);
        for (int column = 0; column < row.length; column++) {
            String call = name + ": nearestAt(" + goal + ", " + column + ")";
            CHECKS.due(call, x.nearestAt(goal, column), row[column]);
        }
    }

    private static ExactShares2 weighted(int... weights) {
        ExactShares2 x = new ExactShares2(weights.length);
        for (int column = 0; column < weights.length; column++) {
            x.weight(column, weights[column]);
        }
        return x;
    }

    private static void addRow(ExactShares2 x, int... items) {
        int row = x.background();
        for (int column = 0; column < items.length; column++) {
            x.item(row, column, items[column]);
        }
    }

    private static void bar() {
        ExactShares2 x = new ExactShares2(2);
        CHECKS.due("bar(-1)", x.bar(-1, true), -1);
        CHECKS.due("bar(2)", x.bar(2, false), -1);
        CHECKS.due("bar(0, false)", x.bar(0, false), 0);
        CHECKS.due("bar(0, true)", x.bar(0, true), 0);
        CHECKS.due("bar(0, true) again", x.bar(0, true), 1);
        CHECKS.due("bar(1, true)", x.bar(1, true), 0);
        CHECKS.due("bar(0, false) then", x.bar(0, false), 1);
        CHECKS.due("bar(0, false) again", x.bar(0, false), 0);
        CHECKS.due("bar(1, true) still", x.bar(1, true), 1);
    }

    private static void withoutBackground() {
        ExactShares2 x = weighted(1, 1);
        x.item(-1, 0, 3);
        x.item(-1, 1, 4);
        dueRow("only the row", x, 7, 0, 3, 4);
        dueRow("only the row", x, Integer.MIN_VALUE, 0, 3, 4);
        CHECKS.due("nearest(8)", x.nearest(8), -3);
        CHECKS.due("nearest(MAX)", x.nearest(Integer.MAX_VALUE), -3);
    }

    private static void fewestColumnsFirst() {
        ExactShares2 x = weighted(1, 1, 1);
        addRow(x, 1, 1, 100);
        dueRow("two near columns or a far one", x, 2, 1, 0, 0, 100);
        dueRow("one near column", x, 1, 1, 0, 1, 0);
        dueRow("two columns", x, 101, 2, 0, 1, 100);
        dueRow("three columns", x, 102, 3, 1, 1, 100);
        CHECKS.due("nearest(103)", x.nearest(103), -3);
    }

    private static void leastSumThen() {
        ExactShares2 x = weighted(1, -1, 2);
        addRow(x, 10, -9, 5);
        addRow(x, 12, 8, 6);
        addRow(x, 11, 7, 4);
        dueRow("the least of all columns", x, 8, 1, 0, 0, 4);
        dueRow("a column more far", x, 9, 1, 0, 0, 5);
        dueRow("farther still", x, 11, 1, 0, 0, 6);
        dueRow("one column less", x, 12, 1, 0, 0, 6);
        dueRow("two columns", x, 13, 2, 0, -9, 4);
        dueRow("two columns and more", x, 21, 2, 0, -9, 6);
        dueRow("most of all", x, 33, 3, 12, -9, 6);
        CHECKS.due("nearest(34)", x.nearest(34), -3);
    }

    private static void lessAtTheFirstColumnThen() {
        ExactShares2 x = weighted(0, 0, 0);
        x.leaf(0);
        x.leaf(1);
        for (int column = 0; column < 3; column++) {
            // 1 where the column is above 1 or below -1.
            x.split(column, -2, 1, 0);
            x.split(column, 1, 2 + 2 * column, 1);
            x.root(3 + 2 * column);
        }
        addRow(x, 2, 2, 2);
        addRow(x, -2, -2, -2);
        dueRow("one column", x, 1, 1, -2, 0, 0);
        dueRow("two columns", x, 2, 2, -2, -2, 0);
        dueRow("three columns", x, 3, 3, -2, -2, -2);
        x.bar(0, true);
        dueRow("the first one barred", x, 1, 1, 0, -2, 0);
        x.bar(0, false);
        x.item(1, 0, 0);
        // Row (0, -2, 0) has less at the first column than (2, 0, 0).
        dueRow("only up in column 0", x, 1, 1, 0, -2, 0);
        x.item(1, 1, 0);
        x.item(1, 2, 0);
        dueRow("only up", x, 1, 1, 0, 0, 2);
    }

    private static void barredColumnsStay() {
        ExactShares2 x = weighted(1, 1);
        x.item(-1, 1, 5);
        addRow(x, 10, 20);
        dueRow("free", x, 15, 1, 10, 5);
        x.bar(0, true);
        dueRow("0 barred", x, 15, 1, 0, 20);
        CHECKS.due("0 barred, too much", x.nearest(21), -3);
        x.bar(1, true);
        CHECKS.due("both barred", x.nearest(6), -3);
        dueRow("both barred", x, 5, 0, 0, 5);
        x.bar(0, false);
        x.bar(1, false);
        dueRow("free again", x, 30, 2, 10, 20);
    }

    private static void columnsMixRows() {
        ExactShares2 x = weighted(1, 1, 1, 1, 1, 1);
        for (int row = 0; row < 5; row++) {
            int[] items = new int[6];
            items[row] = 50 + row;
            items[5] = row;
            addRow(x, items);
        }
        dueRow("from five rows", x, 264, 6, 50, 51, 52, 53, 54, 4);
        CHECKS.due("nearest(265)", x.nearest(265), -3);
        dueRow("without the last", x, 260, 5, 50, 51, 52, 53, 54, 0);
        CHECKS.due("rows stay", x.answer(-1), 0);
    }

    private static void atTheEdgeOfASplit() {
        ExactShares2 up = new ExactShares2(1);
        up.leaf(0);
        up.leaf(9);
        up.split(0, 4, 0, 1);
        up.root(2);
        up.item(-1, 0, 4);
        CHECKS.due("at AT, low", up.nearest(1), -3);
        addRow(up, 5);
        dueRow("above AT", up, 9, 1, 5);
        ExactShares2 down = new ExactShares2(1);
        down.leaf(9);
        down.leaf(0);
        down.split(0, 4, 0, 1);
        down.root(2);
        down.item(-1, 0, 6);
        addRow(down, 5);
        CHECKS.due("all above AT", down.nearest(1), -3);
        addRow(down, 4);
        dueRow("at AT", down, 9, 1, 4);
        addRow(down, 3);
        dueRow("below AT is farther", down, 9, 1, 4);
    }

    private static void nodesThatCannotBothBeHad() {
        ExactShares2 x = weighted(10, -1);
        x.leaf(0);
        x.leaf(10);
        x.split(1, 0, 1, 0);
        x.split(1, 0, 0, 1);
        x.root(2);
        x.root(3);
        addRow(x, 1, 5);
        // Either root gives 10 for column 1, never both at once.
        dueRow("one of the two", x, 20, 1, 1, 0);
        CHECKS.due("both of the two", x.nearest(21), -3);
    }

    private static void noneAndNoColumn() {
        ExactShares2 x = weighted(1, 1);
        addRow(x, 1, 1);
        CHECKS.due("nearestAt none", x.nearestAt(3, 0), ExactShares2.NOTHING);
        CHECKS.due("nearestAt column -1", x.nearestAt(1, -1), ExactShares2.NOTHING);
        CHECKS.due("nearestAt column 2", x.nearestAt(1, 2), ExactShares2.NOTHING);
        CHECKS.due("nearestAt after none", x.nearestAt(1, 1), 1);
        dueRow("the goal changes", x, 2, 2, 1, 1);
        dueRow("the goal changes back", x, 0, 0, 0, 0);
    }
}
