/** Promises 7 to 10: background, item, group, answer. */
public final class RowsTest {
    private static final Checks CHECKS = new Checks();

    public static void main(String[] args) {
        background();
        item();
        group();
        answer();
        CHECKS.finish();
    }

    private static void background() {
        ExactShares2 x = new ExactShares2(2);
        x.weight(0, 1);
        x.item(-1, 0, 4);
        for (int row = 0; row < 5; row++) {
            CHECKS.due("background()", x.background(), row);
            CHECKS.due("of 0s", x.answer(row), 0);
            x.item(row, 0, row + 1);
        }
        CHECKS.due("background() without room", x.background(), -4);
        CHECKS.due("the last one stays", x.answer(4), 5);
        CHECKS.due("there is no sixth", x.answer(5), ExactShares2.NOTHING);
    }

    private static void item() {
        ExactShares2 x = new ExactShares2(2);
        x.weight(0, 1);
        x.weight(1, 2);
        CHECKS.due("item(0, ..) without rows", x.item(0, 0, 1), -1);
        x.background();
        CHECKS.due("item(-2, ..)", x.item(-2, 0, 1), -1);
        CHECKS.due("item(1, ..)", x.item(1, 0, 1), -1);
        CHECKS.due("item(MIN, ..)", x.item(Integer.MIN_VALUE, 0, 1), -1);
        CHECKS.due("item column -1", x.item(0, -1, 1), -1);
        CHECKS.due("item column 2", x.item(-1, 2, 1), -1);
        CHECKS.due("item no column, 101", x.item(-1, 2, 101), -1);
        CHECKS.due("item no row, 101", x.item(1, 0, 101), -1);
        CHECKS.due("item 101", x.item(-1, 0, 101), -2);
        CHECKS.due("item -101", x.item(0, 0, -101), -2);
        CHECKS.due("item MIN", x.item(0, 0, Integer.MIN_VALUE), -2);
        CHECKS.due("nothing changed", x.answer(-1) + x.answer(0), 0);
        CHECKS.due("item 100", x.item(-1, 0, 100), 1);
        CHECKS.due("item -100", x.item(0, 1, -100), 1);
        CHECKS.due("the row", x.answer(-1), 100);
        CHECKS.due("row 0", x.answer(0), -200);
        CHECKS.due("item again", x.item(0, 1, 3), 1);
        CHECKS.due("row 0 again", x.answer(0), 6);
        CHECKS.due("the row still", x.answer(-1), 100);
    }

    private static void group() {
        ExactShares2 x = new ExactShares2(3);
        CHECKS.due("group(-1, 0)", x.group(-1, 0), -1);
        CHECKS.due("group(3, 0)", x.group(3, 0), -1);
        CHECKS.due("group(3, 3)", x.group(3, 3), -1);
        CHECKS.due("group(0, 3)", x.group(0, 3), -2);
        CHECKS.due("group(0, -1)", x.group(0, -1), -2);
        for (int column = 0; column < 3; column++) {
            CHECKS.due("group at first", x.group(column, 2 - column), column);
            CHECKS.due("group then", x.group(column, 2 - column), 2 - column);
        }
        CHECKS.due("group(0, 0)", x.group(0, 0), 2);
    }

    private static void answer() {
        ExactShares2 x = new ExactShares2(6);
        CHECKS.due("answer(-1)", x.answer(-1), 0);
        CHECKS.due("answer(-2)", x.answer(-2), ExactShares2.NOTHING);
        CHECKS.due("answer(0)", x.answer(0), ExactShares2.NOTHING);
        CHECKS.due("answer(MIN)", x.answer(Integer.MIN_VALUE), ExactShares2.NOTHING);
        CHECKS.due("answer(MAX)", x.answer(Integer.MAX_VALUE), ExactShares2.NOTHING);
        x.background();
        x.leaf(1000);
        x.leaf(-1000);
        x.split(5, 99, 1, 0);
        for (int column = 0; column < 6; column++) {
            x.weight(column, 20);
            x.item(-1, column, 100);
            x.item(0, column, -100);
        }
        for (int times = 0; times < 4; times++) {
            x.root(2);
        }
        CHECKS.due("the greatest", x.answer(-1), 16000);
        CHECKS.due("the least", x.answer(0), -16000);
        CHECKS.due("answer(1)", x.answer(1), ExactShares2.NOTHING);
    }
}
