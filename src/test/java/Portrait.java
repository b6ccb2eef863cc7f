import java.util.ArrayList;
import java.util.List;
import java.util.function.LongSupplier;

/**
 * All that the calls of the face show of an object, one line for each call. The last calls show
 * what only a change can show, so that the object is not to be used any more.
 */
final class Portrait {
    private static final int[] GOALS = {Integer.MIN_VALUE, 0, 300, 2000, Integer.MAX_VALUE};

    private final ExactShares2 x;
    private final int columns;
    private final List<String> lines = new ArrayList<>();

    private Portrait(ExactShares2 x, int columns) {
        this.x = x;
        this.columns = columns;
    }

    static List<String> of(ExactShares2 x, int columns) {
        Portrait portrait = new Portrait(x, columns);
        portrait.answers();
        portrait.means();
        portrait.nearest();
        portrait.changes();
        return portrait.lines;
    }

    private void note(String call, LongSupplier asking) {
        String told;
        try {
            told = String.valueOf(asking.getAsLong());
        } catch (ArithmeticException e) {
            told = "throws";
        }
        lines.add(call + " " + told);
    }

    private void answers() {
        for (int row = -1; row <= 5; row++) {
            int asked = row;
            note("answer " + row, () -> x.answer(asked));
        }
    }

    private void means() {
        // What is below tells of the number of rows; two of them are enough.
        note("below value 0", () -> x.value(0, 1));
        note("below value 1", () -> x.value(1, 1));
        for (int set = 0; set < 1 << columns; set++) {
            int asked = set;
            note("value " + set, () -> x.value(asked, 0));
        }
        for (int column = 0; column < columns; column++) {
            int asked = column;
            for (int manner = 0; manner < 2; manner++) {
                int by = manner;
                note("share " + column + " by " + manner, () -> x.share(asked, by, 0));
            }
            note("both 0 and " + column, () -> x.both(0, asked, 0));
            note("drawn " + column, () -> x.drawn(asked, 2026, 5, 0));
            note("partial " + column, () -> x.partial(asked, 3, 0));
            note("worth " + column, () -> x.worth(asked, 0));
            note("rank " + column, () -> x.rank(asked));
        }
    }

    private void nearest() {
        for (int goal : GOALS) {
            note("nearest " + goal, () -> x.nearest(goal));
            for (int column = 0; column < columns; column++) {
                int asked = column;
                note("nearest " + goal + " at " + column, () -> x.nearestAt(goal, asked));
            }
        }
    }

    private void changes() {
        for (int column = 0; column < columns; column++) {
            int asked = column;
            note("group of " + column, () -> x.group(asked, 0));
            note("bar of " + column, () -> x.bar(asked, false));
        }
        note("leaf more", () -> x.leaf(0));
        note("root more", () -> x.root(0));
        note("background more", x::background);
        // One weight at a time shows each item of each row by itself.
        for (int heavy = 0; heavy < columns; heavy++) {
            for (int column = 0; column < columns; column++) {
                x.weight(column, column == heavy ? 20 : 0);
            }
            for (int row = -1; row < 5; row++) {
                int asked = row;
                note("answer " + row + " with weight at " + heavy, () -> x.answer(asked));
            }
        }
        note("nodes", x::clear);
    }
}
