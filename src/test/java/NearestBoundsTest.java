/** Promises 18 to 20, each sentence that names a boundary, with the terms that it uses. */
public final class NearestBoundsTest {
    private static final Checks CHECKS = new Checks();
    private static final long NOTHING = ExactShares2.NOTHING;
    private static final int MIN = Integer.MIN_VALUE;
    private static final int MAX = Integer.MAX_VALUE;

    public static void main(String[] args) {
        barNeedsAColumn();
        barTellsWhetherItWas();

        nearestMayHaveAnAnswerOfJustTheGoal();
        nearestTakesEveryGoal();
        nearestWithoutBackgroundIsTheRowOrNone();
        nearestWithEqualRowsIsTheRowOrNone();
        nearestTakesWhatSomeRowHas();
        nearestTakesWhatAnyOfSixRowsHas();
        nearestTakesASplitAtAtAsLow();
        nearestMayHaveLessInALaterColumn();
        nearestOfABarredColumnHasWhatTheRowHas();
        nearestWithAllBarredIsTheRowOrNone();
        nearestIsFirstOfFewestColumns();
        nearestIsThenOfTheLeastSum();
        nearestCountsHowMuchWithoutSign();
        nearestHasThenLessAtTheFirstColumn();
        nearestHasThenLessAtALaterColumn();
        nearestDiffersInSixColumns();
        nearestFarAway();
        nearestKnowsNoRowsFromBeforeAClear();

        nearestAtNeedsAColumn();
        nearestAtIsNothingWhereThereIsNone();
        nearestAtOfTheRowItself();
        nearestAtGoesByItsOwnGoal();
        nearestChangesNothing();
        CHECKS.finish();
    }

    private static void dueRow(String name, ExactShares2 x, int goal, int differs, int... row) {
        CHECKS.due(name + ": nearest(" + goal + ")", x.nearest(goal), differs);
        for (int column = 0; column < row.length; column++) {
            String call = name + ": nearestAt(" + goal + ", " + column + ")";
            CHECKS.due(call, x.nearestAt(goal, column), row[column]);
        }
    }

    private static void dueNone(String name, ExactShares2 x, int goal) {
        CHECKS.due(name + ": nearest(" + goal + ")", x.nearest(goal), -3);
        CHECKS.due(name + ": nearestAt(" + goal + ", 0)", x.nearestAt(goal, 0), NOTHING);
    }

    // ---- promise 18

    private static void barNeedsAColumn() {
        for (int columns = 1; columns <= 6; columns++) {
            ExactShares2 x = new ExactShares2(columns);
            for (int column : new int[] {MIN, -1, columns, columns + 1, MAX}) {
                CHECKS.due("bar(" + column + ", true) of " + columns, x.bar(column, true), -1);
                CHECKS.due("bar(" + column + ", false) of " + columns, x.bar(column, false), -1);
            }
            CHECKS.due("bar(0) of " + columns, x.bar(0, false), 0);
            CHECKS.due("the last bar of " + columns, x.bar(columns - 1, true), 0);
        }
    }

    private static void barTellsWhetherItWas() {
        ExactShares2 x = new ExactShares2(2);
        CHECKS.due("barred at first", x.bar(1, true), 0);
        CHECKS.due("barred twice", x.bar(1, true), 1);
        CHECKS.due("barred no more", x.bar(1, false), 1);
        CHECKS.due("barred no more, twice", x.bar(1, false), 0);
        CHECKS.due("barred again", x.bar(1, true), 0);
        CHECKS.due("the other one", x.bar(0, false), 0);
    }

    // ---- promise 19

    private static void nearestMayHaveAnAnswerOfJustTheGoal() {
        ExactShares2 x = Made.weighted(1);
        Made.row(x, 10);
        Made.behind(x, 20);
        dueRow("one less than the row's", x, 9, 0, 10);
        dueRow("just the row's", x, 10, 0, 10);
        dueRow("one more than the row's", x, 11, 1, 20);
        dueRow("just the other's", x, 20, 1, 20);
        dueNone("one more than the other's", x, 21);
    }

    private static void nearestTakesEveryGoal() {
        ExactShares2 x = Made.weighted(20, 20, 20, 20, 20, 20);
        x.leaf(1000);
        for (int root = 0; root < 4; root++) {
            x.root(0);
        }
        Made.behind(x, 100, 100, 100, 100, 100, 100);
        dueRow("the least goal", x, MIN, 0, 0, 0, 0, 0, 0, 0);
        dueRow("just the row's", x, 4000, 0, 0, 0, 0, 0, 0, 0);
        dueRow("the greatest answer", x, 16000, 6, 100, 100, 100, 100, 100, 100);
        dueNone("one more", x, 16001);
        dueNone("the greatest goal", x, MAX);
        ExactShares2 least = Made.weighted(20);
        least.leaf(-1000);
        for (int root = 0; root < 4; root++) {
            least.root(0);
        }
        Made.row(least, -100);
        dueRow("the least answer", least, -6000, 0, -100);
        dueNone("above the least answer", least, -5999);
    }

    private static void nearestWithoutBackgroundIsTheRowOrNone() {
        ExactShares2 x = Made.weighted(2, 3);
        Made.row(x, 7, -4);
        dueRow("no background", x, 2, 0, 7, -4);
        dueNone("no background, one more", x, 3);
        ExactShares2 fresh = new ExactShares2(2);
        dueRow("new", fresh, 0, 0, 0, 0);
        dueNone("new, one more", fresh, 1);
    }

    private static void nearestWithEqualRowsIsTheRowOrNone() {
        ExactShares2 x = Made.weighted(2, 3);
        Made.row(x, 7, -4);
        for (int row = 0; row < 5; row++) {
            Made.behind(x, 7, -4);
        }
        dueRow("five rows like the row", x, 2, 0, 7, -4);
        dueNone("five rows like the row, one more", x, 3);
    }

    private static void nearestTakesWhatSomeRowHas() {
        ExactShares2 x = Made.weighted(1, 1);
        Made.behind(x, 10, 0);
        Made.behind(x, 0, 30);
        Made.behind(x, 5, 5);
        Made.behind(x, 0, 0);
        Made.behind(x, 11, 31);
        dueRow("the first row's", x, 10, 1, 10, 0);
        dueRow("the last row's", x, 11, 1, 11, 0);
        dueRow("of two rows", x, 40, 2, 10, 30);
        dueRow("of two others", x, 41, 2, 10, 31);
        dueNone("nothing between or above", x, 43);
        ExactShares2 between = Made.weighted(1);
        Made.row(between, 1);
        Made.behind(between, 9);
        dueRow("nothing between two rows", between, 2, 1, 9);
    }

    private static void nearestTakesWhatAnyOfSixRowsHas() {
        ExactShares2 x = Made.weighted(1, 0);
        Made.row(x, 3, 3);
        for (int v : new int[] {9, -5, 7, 1, 4}) {
            Made.behind(x, v, -v);
        }
        // Six that all differ; each but the row's own must be reached.
        dueRow("3", x, 3, 0, 3, 3);
        dueRow("4", x, 4, 1, 4, 3);
        dueRow("7", x, 5, 1, 7, 3);
        dueRow("9", x, 8, 1, 9, 3);
        dueNone("10", x, 10);
        x.weight(0, -1);
        dueRow("1", x, -2, 1, 1, 3);
        dueRow("-5", x, 0, 1, -5, 3);
        dueNone("-6", x, 6);
    }

    private static void nearestTakesASplitAtAtAsLow() {
        ExactShares2 x = Made.step(4, 9, 0);
        Made.row(x, 8);
        Made.behind(x, 5);
        dueNone("one above AT", x, 1);
        Made.behind(x, 4);
        dueRow("just at AT", x, 9, 1, 4);
        ExactShares2 high = Made.step(4, 0, 9);
        Made.row(high, 0);
        Made.behind(high, 4);
        dueNone("just at AT, low", high, 1);
        Made.behind(high, 5);
        dueRow("one above AT, high", high, 9, 1, 5);
    }

    private static void nearestMayHaveLessInALaterColumn() {
        ExactShares2 x = Made.weighted(4, 0);
        // 5 where column 1 is below 0, else 4: never both, though either can be had.
        x.leaf(0);
        x.leaf(5);
        x.leaf(4);
        x.root(x.split(1, -1, 1, 0));
        x.root(x.split(1, -1, 0, 2));
        Made.behind(x, 1, -1);
        Made.behind(x, 0, 1);
        dueRow("column 0 up, column 1 down", x, 9, 2, 1, -1);
        dueRow("column 0 up", x, 8, 1, 1, 0);
        dueNone("no more than that", x, 10);
    }

    private static void nearestOfABarredColumnHasWhatTheRowHas() {
        ExactShares2 x = Made.weighted(1, 1, 1);
        Made.row(x, 1, 2, 3);
        Made.behind(x, 50, 60, 70);
        for (int column = 0; column < 3; column++) {
            x.bar(column, true);
            // The others have 60 and 70, 50 and 70, or 50 and 60.
            int most = 130 - 10 * column + column + 1;
            CHECKS.due("column " + column + " barred", x.nearest(most), 2);
            CHECKS.due("it has what the row has", x.nearestAt(most, column), column + 1);
            dueNone("column " + column + " barred, one more", x, most + 1);
            x.bar(column, false);
        }
        x.bar(1, true);
        dueRow("column 1 barred", x, 122, 2, 50, 2, 70);
        dueNone("column 1 barred, one more", x, 123);
        x.bar(1, false);
        dueRow("none barred", x, 123, 2, 1, 60, 70);
    }

    private static void nearestWithAllBarredIsTheRowOrNone() {
        ExactShares2 x = Made.weighted(1, 1, 1, 1, 1, 1);
        Made.behind(x, 9, 9, 9, 9, 9, 9);
        for (int column = 0; column < 6; column++) {
            x.bar(column, true);
        }
        dueRow("all barred", x, 0, 0, 0, 0, 0, 0, 0, 0);
        dueNone("all barred, one more", x, 1);
        x.bar(5, false);
        dueRow("all but the last barred", x, 1, 1, 0, 0, 0, 0, 0, 9);
        dueNone("all but the last barred, too much", x, 10);
    }

    private static void nearestIsFirstOfFewestColumns() {
        ExactShares2 x = Made.weighted(20, 20, 1);
        Made.row(x, 0, 0, -100);
        Made.behind(x, 1, 1, 100);
        // One column that is 200 away comes before two that are 1 away each.
        dueRow("one far column", x, -60, 1, 0, 0, 100);
        dueRow("one near column", x, -80, 1, 0, 1, -100);
    }

    private static void nearestIsThenOfTheLeastSum() {
        ExactShares2 x = Made.weighted(1, 1);
        Made.behind(x, 10, 9);
        Made.behind(x, 11, 12);
        dueRow("9, not 10", x, 9, 1, 0, 9);
        dueRow("10, not 11 or 12", x, 10, 1, 10, 0);
        dueRow("11, not 12", x, 11, 1, 11, 0);
        dueRow("12", x, 12, 1, 0, 12);
        dueRow("10 and 9", x, 19, 2, 10, 9);
        dueRow("11 and 9", x, 20, 2, 11, 9);
        dueRow("10 and 12", x, 21, 2, 10, 12);
    }

    private static void nearestCountsHowMuchWithoutSign() {
        ExactShares2 x = new ExactShares2(1);
        // 5 where the column is not 0.
        x.leaf(0);
        x.leaf(5);
        x.split(0, -1, 1, 0);
        x.split(0, 0, 2, 1);
        x.root(3);
        Made.behind(x, -7);
        Made.behind(x, 6);
        dueRow("6 up is less than 7 down", x, 5, 1, 6);
        x.item(0, 0, -5);
        dueRow("5 down is less than 6 up", x, 5, 1, -5);
        x.item(0, 0, -6);
        dueRow("6 down has less than 6 up", x, 5, 1, -6);
    }

    private static void nearestHasThenLessAtTheFirstColumn() {
        ExactShares2 x = Made.weighted(1, 1, 1);
        Made.behind(x, 4, 4, 4);
        // All that differ in one column are 4 away: 0 is less than 4 at column 0, then at column 1.
        dueRow("one of three", x, 4, 1, 0, 0, 4);
        dueRow("two of three", x, 8, 2, 0, 4, 4);
        ExactShares2 down = Made.weighted(-1, -1, -1);
        Made.behind(down, -4, -4, -4);
        dueRow("one of three, down", down, 4, 1, -4, 0, 0);
        dueRow("two of three, down", down, 8, 2, -4, -4, 0);
    }

    private static void nearestHasThenLessAtALaterColumn() {
        ExactShares2 x = Made.weighted(20, 0, 0);
        x.leaf(0);
        x.leaf(5);
        for (int column = 1; column < 3; column++) {
            // 5 where the column is not 0.
            int below = x.split(column, -1, 1, 0);
            x.root(x.split(column, 0, below, 1));
        }
        Made.behind(x, 1, 3, -3);
        Made.behind(x, 1, -3, 3);
        dueRow("column 0 for all", x, 25, 2, 1, -3, 0);
        dueRow("the last column too", x, 30, 3, 1, -3, -3);
        x.bar(1, true);
        dueRow("the last column alone", x, 25, 2, 1, 0, -3);
    }

    private static void nearestDiffersInSixColumns() {
        ExactShares2 x = Made.weighted(1, 1, 1, 1, 1, 1);
        Made.row(x, -100, -100, -100, -100, -100, -100);
        Made.behind(x, 100, 100, 100, 100, 100, 100);
        for (int count = 0; count <= 6; count++) {
            CHECKS.due(count + " columns", x.nearest(200 * count - 600), count);
            if (count < 6) {
                CHECKS.due(count + " columns, one more", x.nearest(200 * count - 599), count + 1);
            }
        }
        dueNone("more than all", x, 601);
    }

    private static void nearestFarAway() {
        ExactShares2 x = Made.weighted(1, 1, 1, 1, 1, 1);
        x.leaf(0);
        x.leaf(1000);
        // 1000 more where no column has -100.
        for (int column = 0; column < 6; column++) {
            x.split(column, -100, 0, column + 1);
        }
        x.root(7);
        Made.row(x, -100, -100, -100, -100, -100, -100);
        Made.behind(x, 100, 100, 100, 100, 100, 100);
        Made.behind(x, -99, -99, -99, -99, -99, -99);
        dueRow("five of 200 before six of 1", x, 400, 5, -100, 100, 100, 100, 100, 100);
        dueRow("six of 1", x, 401, 6, -99, -99, -99, -99, -99, -99);
        dueRow("one of 200 among them", x, 407, 6, -99, -99, -99, -99, -99, 100);
        dueRow("six of 200", x, 1600, 6, 100, 100, 100, 100, 100, 100);
        dueNone("more than all", x, 1601);
    }

    private static void nearestKnowsNoRowsFromBeforeAClear() {
        ExactShares2 x = Made.weighted(1, 1);
        Made.row(x, 1, 2);
        Made.behind(x, 50, 60);
        x.bar(0, true);
        x.clear();
        Made.weights(x, 1, 1);
        dueRow("cleared", x, 0, 0, 0, 0);
        dueNone("cleared, one more", x, 1);
        Made.behind(x, 1, 0);
        dueRow("cleared, nothing barred", x, 1, 1, 1, 0);
        dueNone("cleared, more than there is", x, 2);
    }

    // ---- promise 20

    private static void nearestAtNeedsAColumn() {
        for (int columns = 1; columns <= 6; columns++) {
            ExactShares2 x = new ExactShares2(columns);
            for (int column : new int[] {MIN, -1, columns, columns + 1, MAX}) {
                CHECKS.due("nearestAt(0, " + column + ")", x.nearestAt(0, column), NOTHING);
                CHECKS.due("and there is none", x.nearestAt(1, column), NOTHING);
            }
            x.item(-1, columns - 1, -9);
            CHECKS.due("the last of " + columns, x.nearestAt(0, columns - 1), -9);
        }
    }

    private static void nearestAtIsNothingWhereThereIsNone() {
        ExactShares2 x = Made.weighted(1, 0);
        Made.behind(x, 5, 5);
        dueRow("there is one", x, 5, 1, 5, 0);
        for (int column = 0; column < 2; column++) {
            CHECKS.due("there is none", x.nearestAt(6, column), NOTHING);
            CHECKS.due("there is none, at all", x.nearestAt(MAX, column), NOTHING);
        }
    }

    private static void nearestAtOfTheRowItself() {
        ExactShares2 x = Made.weighted(0, 0, 0);
        Made.row(x, -100, 0, 100);
        dueRow("the row", x, 0, 0, -100, 0, 100);
    }

    private static void nearestAtGoesByItsOwnGoal() {
        ExactShares2 x = Made.weighted(1);
        Made.behind(x, 5);
        Made.behind(x, 8);
        CHECKS.due("nearest(6)", x.nearest(6), 1);
        CHECKS.due("nearestAt(5)", x.nearestAt(5, 0), 5);
        CHECKS.due("nearestAt(6)", x.nearestAt(6, 0), 8);
        CHECKS.due("nearestAt(9)", x.nearestAt(9, 0), NOTHING);
        CHECKS.due("nearestAt(0)", x.nearestAt(0, 0), 0);
        x.item(-1, 0, 7);
        CHECKS.due("nearestAt(0) of another row", x.nearestAt(0, 0), 7);
    }

    private static void nearestChangesNothing() {
        ExactShares2 x = Made.full();
        for (int goal : new int[] {MIN, 0, 500, 1500, MAX}) {
            x.nearest(goal);
            x.nearestAt(goal, 5);
        }
        CHECKS.dueSame("nearest", Portrait.of(x, 6), Portrait.of(Made.full(), 6));
    }
}
