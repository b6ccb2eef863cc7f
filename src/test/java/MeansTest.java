/** Promises 11 to 17: value, share, both, drawn, partial, worth, rank. */
public final class MeansTest {
    private static final Checks CHECKS = new Checks();

    public static void main(String[] args) {
        refusalsComeBeforeTheThrow();
        value();
        share();
        shareOfGroups();
        both();
        bothOfGroups();
        drawn();
        drawnOrdersStartAnew();
        partial();
        worth();
        rank();
        rankGoesByOrders();
        rankOfGroupsWithoutBackground();
        greatestNumbers();
        CHECKS.finish();
    }

    /** 30 where columns 0 and 1 are both above 0, 12 more where column 2 is too; rows 0s and 1s. */
    private static ExactShares2 ladder() {
        ExactShares2 x = new ExactShares2(3);
        x.leaf(0);
        x.leaf(30);
        x.leaf(42);
        x.split(2, 0, 1, 2);
        x.split(1, 0, 0, 3);
        x.split(0, 0, 0, 4);
        x.root(5);
        x.background();
        for (int column = 0; column < 3; column++) {
            x.item(-1, column, 1);
        }
        return x;
    }

    private static void refusalsComeBeforeTheThrow() {
        ExactShares2 x = new ExactShares2(2);
        for (int turn = 0; turn < 2; turn++) {
            CHECKS.dueNothing("value(-1)", part -> x.value(-1, part));
            CHECKS.dueNothing("value(4)", part -> x.value(4, part));
            CHECKS.dueNothing("share(-1, 0)", part -> x.share(-1, 0, part));
            CHECKS.dueNothing("share(2, 0)", part -> x.share(2, 0, part));
            CHECKS.dueNothing("share(0, -1)", part -> x.share(0, -1, part));
            CHECKS.dueNothing("share(0, 2)", part -> x.share(0, 2, part));
            CHECKS.dueNothing("both(-1, 0)", part -> x.both(-1, 0, part));
            CHECKS.dueNothing("both(0, 2)", part -> x.both(0, 2, part));
            CHECKS.dueNothing("both(1, 1)", part -> x.both(1, 1, part));
            CHECKS.dueNothing("drawn(-1, 1, 1)", part -> x.drawn(-1, 1, 1, part));
            CHECKS.dueNothing("drawn(2, 1, 1)", part -> x.drawn(2, 1, 1, part));
            CHECKS.dueNothing("drawn(0, 1, 0)", part -> x.drawn(0, 1, 0, part));
            CHECKS.dueNothing("drawn(0, 1, 21)", part -> x.drawn(0, 1, 21, part));
            CHECKS.dueNothing("partial(-1, 0)", part -> x.partial(-1, 0, part));
            CHECKS.dueNothing("partial(2, 0)", part -> x.partial(2, 0, part));
            CHECKS.dueNothing("partial(0, 101)", part -> x.partial(0, 101, part));
            CHECKS.dueNothing("partial(0, -101)", part -> x.partial(0, -101, part));
            CHECKS.dueNothing("worth(-1)", part -> x.worth(-1, part));
            CHECKS.dueNothing("worth(2)", part -> x.worth(2, part));
            for (int part : new int[] {-1, 2, Integer.MIN_VALUE, Integer.MAX_VALUE}) {
                CHECKS.due("value part", x.value(0, part), ExactShares2.NOTHING);
                CHECKS.due("share part", x.share(0, 0, part), ExactShares2.NOTHING);
                CHECKS.due("both part", x.both(0, 1, part), ExactShares2.NOTHING);
                CHECKS.due("drawn part", x.drawn(0, 1, 1, part), ExactShares2.NOTHING);
                CHECKS.due("partial part", x.partial(0, 0, part), ExactShares2.NOTHING);
                CHECKS.due("worth part", x.worth(0, part), ExactShares2.NOTHING);
            }
            if (turn == 0) {
                throwsWithoutBackground(x);
                x.background();
            }
        }
        CHECKS.dueFraction("value(3)", part -> x.value(3, part), 0, 1);
    }

    private static void throwsWithoutBackground(ExactShares2 x) {
        for (int part = 0; part < 2; part++) {
            int asked = part;
            CHECKS.dueArithmetic("value", () -> x.value(0, asked));
            CHECKS.dueArithmetic("share by 0", () -> x.share(0, 0, asked));
            CHECKS.dueArithmetic("share by 1", () -> x.share(0, 1, asked));
            CHECKS.dueArithmetic("both", () -> x.both(0, 1, asked));
            CHECKS.dueArithmetic("drawn", () -> x.drawn(0, 1, 1, asked));
            CHECKS.dueArithmetic("partial", () -> x.partial(0, 0, asked));
            CHECKS.dueArithmetic("worth", () -> x.worth(0, asked));
        }
    }

    private static void value() {
        ExactShares2 x = new ExactShares2(2);
        x.weight(0, 1);
        x.weight(1, 10);
        x.background();
        x.background();
        x.background();
        x.item(-1, 0, -2);
        x.item(-1, 1, 3);
        x.item(0, 0, 1);
        x.item(1, 0, 1);
        x.item(2, 1, -4);
        CHECKS.dueFraction("value(0)", part -> x.value(0, part), -38, 3);
        CHECKS.dueFraction("value(1)", part -> x.value(1, part), -46, 3);
        CHECKS.dueFraction("value(2)", part -> x.value(2, part), 92, 3);
        CHECKS.dueFraction("value(3)", part -> x.value(3, part), 28, 1);
        x.item(2, 0, -2);
        x.item(2, 1, 0);
        CHECKS.dueFraction("value(0) of 0", part -> x.value(0, part), 0, 1);
        CHECKS.dueNothing("value(MIN)", part -> x.value(Integer.MIN_VALUE, part));
        CHECKS.dueNothing("value(MAX)", part -> x.value(Integer.MAX_VALUE, part));
    }

    private static void share() {
        ExactShares2 x = ladder();
        // By orders: 30 is shared by two, 12 by three. By sets: 30 in a half, 12 in a quarter.
        CHECKS.dueFraction("share(0, 0)", part -> x.share(0, 0, part), 19, 1);
        CHECKS.dueFraction("share(1, 0)", part -> x.share(1, 0, part), 19, 1);
        CHECKS.dueFraction("share(2, 0)", part -> x.share(2, 0, part), 4, 1);
        CHECKS.dueFraction("share(0, 1)", part -> x.share(0, 1, part), 18, 1);
        CHECKS.dueFraction("share(1, 1)", part -> x.share(1, 1, part), 18, 1);
        CHECKS.dueFraction("share(2, 1)", part -> x.share(2, 1, part), 3, 1);
        x.weight(2, -1);
        x.background();
        x.item(1, 0, 1);
        // With row 1 behind, column 1 alone brings 30, column 2 with it brings 12.
        CHECKS.dueFraction("share(0, 0) of two rows", part -> x.share(0, 0, part), 19, 2);
        CHECKS.dueFraction("share(1, 0) of two rows", part -> x.share(1, 0, part), 55, 2);
        CHECKS.dueFraction("share(2, 0) of two rows", part -> x.share(2, 0, part), 4, 1);
        CHECKS.dueFraction("share(2, 1) of two rows", part -> x.share(2, 1, part), 7, 2);
    }

    private static void shareOfGroups() {
        ExactShares2 x = ladder();
        x.group(0, 2);
        // Columns 0 and 2 are one group now: 42 is shared by it and column 1.
        CHECKS.dueFraction("share of a group", part -> x.share(0, 0, part), 21, 1);
        CHECKS.dueFraction("its other column", part -> x.share(2, 0, part), 21, 1);
        CHECKS.dueFraction("the other group", part -> x.share(1, 0, part), 21, 1);
        CHECKS.dueFraction("a group by sets", part -> x.share(2, 1, part), 21, 1);
        x.group(1, 2);
        CHECKS.dueFraction("the only group", part -> x.share(1, 0, part), 42, 1);
        CHECKS.dueFraction("the only group by sets", part -> x.share(1, 1, part), 42, 1);
        x.group(0, 1);
        x.group(1, 1);
        CHECKS.dueFraction("0 and 1 by sets", part -> x.share(0, 1, part), 36, 1);
        CHECKS.dueFraction("0 and 1 by orders", part -> x.share(0, 0, part), 36, 1);
        CHECKS.dueFraction("2 alone", part -> x.share(2, 0, part), 6, 1);
    }

    private static void both() {
        ExactShares2 x = ladder();
        // P is empty in one order of the two, and column 2 in the other: 30 and 42.
        CHECKS.dueFraction("both(0, 1)", part -> x.both(0, 1, part), 36, 1);
        CHECKS.dueFraction("both(1, 0)", part -> x.both(1, 0, part), 36, 1);
        CHECKS.dueFraction("both(0, 2)", part -> x.both(0, 2, part), 6, 1);
        CHECKS.dueFraction("both(2, 1)", part -> x.both(2, 1, part), 6, 1);
        x.item(-1, 2, 0);
        CHECKS.dueFraction("both(0, 2) of 0", part -> x.both(0, 2, part), 0, 1);
        ExactShares2 four = new ExactShares2(4);
        four.leaf(0);
        four.leaf(1);
        for (int column = 0; column < 4; column++) {
            four.split(column, 0, 0, column + 1);
            four.item(-1, column, 1);
        }
        four.root(5);
        four.background();
        // All four together alone bring 1: both others must be before, in 2 of the 6 orders.
        CHECKS.dueFraction("both of four", part -> four.both(3, 1, part), 1, 3);
        CHECKS.dueFraction("share of four", part -> four.share(3, 0, part), 1, 4);
        CHECKS.dueFraction("share of four by sets", part -> four.share(3, 1, part), 1, 8);
    }

    private static void bothOfGroups() {
        ExactShares2 x = ladder();
        x.group(2, 1);
        CHECKS.dueNothing("both of one group", part -> x.both(1, 2, part));
        CHECKS.dueFraction("both of two groups", part -> x.both(0, 2, part), 42, 1);
        x.clear();
        CHECKS.dueArithmetic("both of two groups again", () -> x.both(1, 2, 0));
        x.group(2, 1);
        CHECKS.dueNothing("both of one group, no background", part -> x.both(1, 2, part));
    }

    private static void drawn() {
        ExactShares2 x = ladder();
        for (int seed : new int[] {0, 1, 5, 99, -1, Integer.MIN_VALUE, Integer.MAX_VALUE}) {
            for (int orders : new int[] {1, 2, 3, 7, 20}) {
                long[] sums = broughtByHand(seed, orders);
                for (int column = 0; column < 3; column++) {
                    int asked = column;
                    long above = sums[column];
                    long common = Math.max(1, gcd(above, orders));
                    String call = "drawn(" + column + ", " + seed + ", " + orders + ")";
                    CHECKS.dueFraction(call, part -> x.drawn(asked, seed, orders, part),
                            above / common, orders / common);
                }
            }
        }
        CHECKS.dueNothing("drawn MIN orders", part -> x.drawn(0, 1, Integer.MIN_VALUE, part));
        CHECKS.dueNothing("drawn -1 orders", part -> x.drawn(0, 1, -1, part));
    }

    private static long[] broughtByHand(int seed, int orders) {
        long[] sums = new long[3];
        long z = seed;
        for (int time = 0; time < orders; time++) {
            int[] order = {0, 1, 2};
            for (int i = 2; i >= 1; i--) {
                z = z * 1103515245L + 12345L & 0xffffffffL;
                int place = (int) ((z >> 16) % (i + 1));
                int kept = order[i];
                order[i] = order[place];
                order[place] = kept;
            }
            int set = 0;
            for (int group : order) {
                long before = ladderAt(set);
                set |= 1 << group;
                sums[group] += ladderAt(set) - before;
            }
        }
        return sums;
    }

    private static long ladderAt(int set) {
        return set == 7 ? 42 : set == 3 ? 30 : 0;
    }

    private static long gcd(long one, long other) {
        return other == 0 ? one : gcd(other, one % other);
    }

    private static void drawnOrdersStartAnew() {
        ExactShares2 x = ladder();
        x.group(0, 2);
        x.group(1, 1);
        x.group(2, 2);
        // Groups 1 and 2 in a row; seed 2 draws 0, 1, 1 below 2: they change once, and only then.
        CHECKS.dueFraction("group 2", part -> x.drawn(0, 2, 3, part), 28, 1);
        CHECKS.dueFraction("group 1", part -> x.drawn(1, 2, 3, part), 14, 1);
        x.group(1, 2);
        CHECKS.dueFraction("the only group", part -> x.drawn(1, 5, 20, part), 42, 1);
    }

    private static void partial() {
        ExactShares2 x = ladder();
        x.background();
        x.item(1, 1, 1);
        x.background();
        x.item(2, 1, 1);
        x.item(2, 2, 1);
        CHECKS.dueFraction("partial(0, 1)", part -> x.partial(0, 1, part), 24, 1);
        CHECKS.dueFraction("partial(0, 0)", part -> x.partial(0, 0, part), 0, 1);
        CHECKS.dueFraction("partial(0, 100)", part -> x.partial(0, 100, part), 24, 1);
        x.weight(0, 1);
        CHECKS.dueFraction("partial(0, -100)", part -> x.partial(0, -100, part), -100, 1);
        x.item(2, 0, 1);
        CHECKS.dueFraction("partial(1, 0)", part -> x.partial(1, 0, part), 1, 3);
        CHECKS.dueFraction("partial(2, 5)", part -> x.partial(2, 5, part), 43, 3);
        CHECKS.due("rows stay", x.answer(2), 43);
        CHECKS.due("the row stays", x.answer(-1), 43);
    }

    private static void worth() {
        ExactShares2 x = new ExactShares2(2);
        x.weight(0, 2);
        x.weight(1, 20);
        x.background();
        CHECKS.dueFraction("worth of one row", part -> x.worth(0, part), 0, 1);
        x.background();
        x.background();
        x.item(1, 0, 1);
        x.item(2, 0, -2);
        // Changes of 2, 4, 6, each both ways, over nine pairs.
        CHECKS.dueFraction("worth(0)", part -> x.worth(0, part), 112, 9);
        CHECKS.dueFraction("worth(1)", part -> x.worth(1, part), 0, 1);
        x.item(-1, 1, 50);
        CHECKS.dueFraction("the row is not in it", part -> x.worth(1, part), 0, 1);
    }

    private static void rank() {
        ExactShares2 x = new ExactShares2(4);
        CHECKS.due("rank(-1) without rows", x.rank(-1), -1);
        CHECKS.due("rank(4) without rows", x.rank(4), -1);
        CHECKS.due("rank(3) without rows", x.rank(3), -3);
        x.background();
        int[] weights = {5, -7, 7, 6};
        for (int column = 0; column < 4; column++) {
            x.item(-1, column, 1);
            CHECKS.due("all 0: least group first", x.rank(column), column);
        }
        for (int column = 0; column < 4; column++) {
            x.weight(column, weights[column]);
        }
        int[] want = {1, 2, 3, 0};
        for (int place = 0; place < 4; place++) {
            CHECKS.due("rank(" + place + ")", x.rank(place), want[place]);
        }
        CHECKS.due("rank(4)", x.rank(4), -1);
        CHECKS.due("rank(-1)", x.rank(-1), -1);
        CHECKS.due("rank(MIN)", x.rank(Integer.MIN_VALUE), -1);
        x.group(0, 3);
        CHECKS.due("a group of 11", x.rank(0), 3);
        CHECKS.due("behind it", x.rank(1), 1);
        CHECKS.due("last", x.rank(2), 2);
        CHECKS.due("three groups", x.rank(3), -1);
        x.group(1, 2);
        CHECKS.due("a group of 0", x.rank(1), 2);
        CHECKS.due("two groups", x.rank(2), -1);
    }

    private static void rankGoesByOrders() {
        ExactShares2 x = new ExactShares2(4);
        x.leaf(0);
        x.leaf(24);
        for (int column = 0; column < 3; column++) {
            x.split(column, 0, 0, column + 1);
        }
        x.root(4);
        x.weight(3, 7);
        x.background();
        for (int column = 0; column < 4; column++) {
            x.item(-1, column, 1);
        }
        // Columns 0 to 2 have 8 each by orders, but 6 by sets; column 3 has 7 by both.
        CHECKS.due("rank(0)", x.rank(0), 0);
        CHECKS.due("rank(2)", x.rank(2), 2);
        CHECKS.due("rank(3)", x.rank(3), 3);
    }

    private static void rankOfGroupsWithoutBackground() {
        ExactShares2 x = new ExactShares2(3);
        x.group(0, 1);
        CHECKS.due("rank(1), two groups", x.rank(1), -3);
        CHECKS.due("rank(2), two groups", x.rank(2), -1);
    }

    private static void greatestNumbers() {
        ExactShares2 x = new ExactShares2(6);
        x.leaf(1000);
        x.leaf(-1000);
        x.split(5, 0, 1, 0);
        for (int times = 0; times < 4; times++) {
            x.root(2);
        }
        for (int row = 0; row < 5; row++) {
            x.background();
        }
        for (int column = 0; column < 6; column++) {
            x.weight(column, 20);
            x.item(-1, column, 100);
            for (int row = 0; row < 5; row++) {
                x.item(row, column, -100);
            }
        }
        x.item(4, 5, 100);
        // Four rows bring 12000 in column 5, the fifth nothing.
        CHECKS.dueFraction("share(5, 0)", part -> x.share(5, 0, part), 9600, 1);
        CHECKS.dueFraction("share(5, 1)", part -> x.share(5, 1, part), 9600, 1);
        CHECKS.dueFraction("share(0, 0)", part -> x.share(0, 0, part), 4000, 1);
        CHECKS.dueFraction("both(0, 5)", part -> x.both(0, 5, part), 0, 1);
        CHECKS.dueFraction("drawn(5)", part -> x.drawn(5, 7, 20, part), 9600, 1);
        CHECKS.dueFraction("worth(5)", part -> x.worth(5, part), 46080000, 1);
        CHECKS.due("rank(0)", x.rank(0), 5);
        CHECKS.due("rank(1)", x.rank(1), 0);
    }
}
