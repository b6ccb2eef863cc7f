/** Promises 7 to 10, each sentence that names a boundary, with the terms that it uses. */
public final class RowsBoundsTest {
    private static final Checks CHECKS = new Checks();
    private static final long NOTHING = ExactShares2.NOTHING;
    private static final int MIN = Integer.MIN_VALUE;
    private static final int MAX = Integer.MAX_VALUE;

    public static void main(String[] args) {
        backgroundNumbersRiseFrom0();
        backgroundHasNoRoomBehindFive();
        backgroundRowsAreOf0s();

        itemRowMinus1IsTheRow();
        itemNeedsARow();
        itemNeedsAColumn();
        itemIs100AtMost();
        itemSaysTheFirstOfSeveralRefusals();
        itemTakesThePlaceOfTheOneBefore();
        itemKnowsNoRowsFromBeforeAClear();

        groupNeedsAColumn();
        groupIsBelowTheNumberOfColumns();
        groupNoColumnIsSaidBeforeOutside();
        groupTellsWhichOneTheColumnHad();
        groupIsThereIfSomeColumnHasIt();

        answerOfMinus1IsThatOfTheRow();
        answerNeedsARow();
        answerWithoutRootsIsOfWeightsAlone();
        answersAtTheirBounds();
        CHECKS.finish();
    }

    private static ExactShares2 withRows(int columns, int count) {
        ExactShares2 x = new ExactShares2(columns);
        for (int row = 0; row < count; row++) {
            x.background();
        }
        return x;
    }

    // ---- promise 7

    private static void backgroundNumbersRiseFrom0() {
        ExactShares2 x = new ExactShares2(1);
        for (int row = 0; row < 5; row++) {
            CHECKS.due("row " + row + " is not there yet", x.answer(row), NOTHING);
            CHECKS.due("background " + row, x.background(), row);
            CHECKS.due("row " + row + " is there", x.answer(row), 0);
        }
    }

    private static void backgroundHasNoRoomBehindFive() {
        ExactShares2 x = withRows(1, 4);
        CHECKS.due("a fifth row", x.background(), 4);
        CHECKS.due("a sixth row", x.background(), -4);
        CHECKS.due("a sixth row again", x.background(), -4);
        CHECKS.due("it is not there", x.answer(5), NOTHING);
        x.weight(0, 1);
        x.item(4, 0, 1);
        CHECKS.dueFraction("means are over five", part -> x.value(0, part), 1, 5);
        CHECKS.due("a sixth row does not empty the last", x.background(), -4);
        CHECKS.due("the last row", x.answer(4), 1);
        x.clear();
        CHECKS.due("room behind clear", x.background(), 0);
    }

    private static void backgroundRowsAreOf0s() {
        ExactShares2 x = Made.weighted(1, 2, 3, 4, 5, 6);
        Made.row(x, 100, 100, 100, 100, 100, 100);
        for (int row = 0; row < 5; row++) {
            x.background();
            CHECKS.due("a row of 0s beside a row of 100s", x.answer(row), 0);
            for (int column = 0; column < 6; column++) {
                x.item(row, column, 100);
            }
        }
        x.clear();
        Made.weights(x, 1, 2, 3, 4, 5, 6);
        for (int row = 0; row < 5; row++) {
            x.background();
            CHECKS.due("a row of 0s in a place that was used", x.answer(row), 0);
        }
    }

    // ---- promise 8

    private static void itemRowMinus1IsTheRow() {
        ExactShares2 x = Made.weighted(1);
        CHECKS.due("item(-1) without background", x.item(-1, 0, 8), 1);
        CHECKS.due("the row has it", x.answer(-1), 8);
        x.background();
        CHECKS.due("item(-1) with background", x.item(-1, 0, 9), 1);
        CHECKS.due("the row has it now", x.answer(-1), 9);
        CHECKS.due("row 0 has not", x.answer(0), 0);
    }

    private static void itemNeedsARow() {
        for (int count = 0; count <= 5; count++) {
            ExactShares2 x = withRows(1, count);
            for (int row : new int[] {MIN, -3, -2, count, count + 1, MAX}) {
                CHECKS.due("item(" + row + ") of " + count, x.item(row, 0, 1), -1);
            }
            for (int row = -1; row < count; row++) {
                CHECKS.due("item(" + row + ") of " + count, x.item(row, 0, 1), 1);
            }
        }
    }

    private static void itemNeedsAColumn() {
        ExactShares2 x = withRows(4, 1);
        for (int column : new int[] {MIN, -1, 4, 5, 6, MAX}) {
            CHECKS.due("item(-1, " + column + ")", x.item(-1, column, 1), -1);
            CHECKS.due("item(0, " + column + ")", x.item(0, column, 1), -1);
        }
        for (int column : new int[] {0, 3}) {
            CHECKS.due("item(-1, " + column + ")", x.item(-1, column, 1), 1);
            CHECKS.due("item(0, " + column + ")", x.item(0, column, 1), 1);
        }
    }

    private static void itemIs100AtMost() {
        ExactShares2 x = withRows(1, 1);
        x.weight(0, 1);
        for (int row : new int[] {-1, 0}) {
            for (int v : new int[] {-100, -99, 0, 99, 100}) {
                CHECKS.due("item " + v, x.item(row, 0, v), 1);
                CHECKS.due("the row has " + v, x.answer(row), v);
            }
            for (int v : new int[] {MIN, MIN + 100, -101, 101, MAX - 100, MAX}) {
                CHECKS.due("item " + v, x.item(row, 0, v), -2);
                CHECKS.due("the row has what it had", x.answer(row), 100);
            }
        }
    }

    private static void itemSaysTheFirstOfSeveralRefusals() {
        ExactShares2 x = withRows(2, 1);
        CHECKS.due("no row, no column", x.item(1, 2, 0), -1);
        CHECKS.due("no row, outside", x.item(1, 0, 101), -1);
        CHECKS.due("row -2, outside", x.item(-2, 0, -101), -1);
        CHECKS.due("no column, outside", x.item(0, 2, 101), -1);
        CHECKS.due("column -1, outside", x.item(-1, -1, -101), -1);
        CHECKS.due("no row, no column, outside", x.item(-2, -1, 101), -1);
        CHECKS.due("outside alone", x.item(0, 1, 101), -2);
    }

    private static void itemTakesThePlaceOfTheOneBefore() {
        ExactShares2 x = withRows(1, 1);
        x.weight(0, 1);
        x.item(0, 0, 100);
        CHECKS.due("item again", x.item(0, 0, 100), 1);
        CHECKS.due("not 200", x.answer(0), 100);
        CHECKS.due("item 0", x.item(0, 0, 0), 1);
        CHECKS.due("0 again", x.answer(0), 0);
    }

    private static void itemKnowsNoRowsFromBeforeAClear() {
        ExactShares2 x = withRows(1, 5);
        x.clear();
        for (int row = 0; row < 5; row++) {
            CHECKS.due("cleared: item(" + row + ")", x.item(row, 0, 1), -1);
        }
        x.background();
        CHECKS.due("cleared: item(0) of one", x.item(0, 0, 1), 1);
        CHECKS.due("cleared: item(1) of one", x.item(1, 0, 1), -1);
    }

    // ---- promise 9

    private static void groupNeedsAColumn() {
        ExactShares2 x = new ExactShares2(4);
        for (int column : new int[] {MIN, -1, 4, 5, 6, MAX}) {
            CHECKS.due("group(" + column + ", 0)", x.group(column, 0), -1);
        }
        CHECKS.due("group(3, 0)", x.group(3, 0), 3);
    }

    private static void groupIsBelowTheNumberOfColumns() {
        for (int columns = 1; columns <= 6; columns++) {
            ExactShares2 x = new ExactShares2(columns);
            for (int group : new int[] {MIN, -1, columns, columns + 1, MAX}) {
                CHECKS.due("group(0, " + group + ") of " + columns, x.group(0, group), -2);
            }
            CHECKS.due("the last group of " + columns, x.group(0, columns - 1), 0);
            CHECKS.due("the first group of " + columns, x.group(0, 0), columns - 1);
        }
    }

    private static void groupNoColumnIsSaidBeforeOutside() {
        ExactShares2 x = new ExactShares2(4);
        CHECKS.due("group(4, 4)", x.group(4, 4), -1);
        CHECKS.due("group(-1, -1)", x.group(-1, -1), -1);
        CHECKS.due("group(3, 4)", x.group(3, 4), -2);
    }

    private static void groupTellsWhichOneTheColumnHad() {
        ExactShares2 x = new ExactShares2(3);
        CHECKS.due("at first", x.group(2, 0), 2);
        CHECKS.due("the same again", x.group(2, 0), 0);
        CHECKS.due("behind the same", x.group(2, 1), 0);
        CHECKS.due("a refused one", x.group(2, 3), -2);
        CHECKS.due("behind a refused one", x.group(2, 2), 1);
        CHECKS.due("the others stay", x.group(0, 0) * 10 + x.group(1, 1), 1);
    }

    private static void groupIsThereIfSomeColumnHasIt() {
        ExactShares2 x = withRows(6, 1);
        for (int column = 0; column < 5; column++) {
            CHECKS.due("so many groups", x.rank(5 - column), 5);
            x.group(column, 5);
            CHECKS.due("one less", x.rank(5 - column), -1);
        }
        CHECKS.due("the only one", x.rank(0), 5);
        x.group(3, 2);
        CHECKS.due("a group comes back", x.rank(0), 2);
        CHECKS.due("and one stays", x.rank(1), 5);
        CHECKS.due("two groups", x.rank(2), -1);
    }

    // ---- promise 10

    private static void answerOfMinus1IsThatOfTheRow() {
        ExactShares2 x = Made.weighted(1);
        x.item(-1, 0, 4);
        CHECKS.due("answer(-1) without background", x.answer(-1), 4);
        Made.behind(x, 9);
        CHECKS.due("answer(-1) with background", x.answer(-1), 4);
        CHECKS.due("answer(0)", x.answer(0), 9);
    }

    private static void answerNeedsARow() {
        for (int count = 0; count <= 5; count++) {
            ExactShares2 x = withRows(1, count);
            for (int row : new int[] {MIN, -3, -2, count, count + 1, MAX}) {
                CHECKS.due("answer(" + row + ") of " + count, x.answer(row), NOTHING);
            }
            for (int row = -1; row < count; row++) {
                CHECKS.due("answer(" + row + ") of " + count, x.answer(row), 0);
            }
        }
    }

    private static void answerWithoutRootsIsOfWeightsAlone() {
        ExactShares2 x = Made.weighted(2, -3);
        Made.row(x, 7, 5);
        x.leaf(1000);
        CHECKS.due("no roots", x.answer(-1), -1);
        x.root(0);
        CHECKS.due("one root", x.answer(-1), 999);
    }

    private static void answersAtTheirBounds() {
        ExactShares2 x = Made.weighted(20, -20, 20, -20, 20, -20);
        x.leaf(1000);
        for (int root = 0; root < 4; root++) {
            x.root(0);
        }
        Made.row(x, 100, -100, 100, -100, 100, -100);
        Made.behind(x, -100, 100, -100, 100, -100, 100);
        CHECKS.due("the greatest", x.answer(-1), 16000);
        CHECKS.due("roots against weights", x.answer(0), -8000);
        ExactShares2 least = Made.weighted(20, 20, 20, 20, 20, 20);
        least.leaf(-1000);
        for (int root = 0; root < 4; root++) {
            least.root(0);
        }
        Made.row(least, -100, -100, -100, -100, -100, -100);
        CHECKS.due("the least", least.answer(-1), -16000);
    }
}
