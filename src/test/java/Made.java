/** The objects that tests of bounds begin with. Each call makes a new one, by the same calls. */
final class Made {
    private Made() {
    }

    static void row(ExactShares2 x, int... items) {
        for (int column = 0; column < items.length; column++) {
            x.item(-1, column, items[column]);
        }
    }

    static void behind(ExactShares2 x, int... items) {
        int row = x.background();
        for (int column = 0; column < items.length; column++) {
            x.item(row, column, items[column]);
        }
    }

    static void weights(ExactShares2 x, int... weights) {
        for (int column = 0; column < weights.length; column++) {
            x.weight(column, weights[column]);
        }
    }

    static ExactShares2 weighted(int... weights) {
        ExactShares2 x = new ExactShares2(weights.length);
        weights(x, weights);
        return x;
    }

    /** An object of one column whose only root gives low up to AT, high above it. */
    static ExactShares2 step(int at, int low, int high) {
        ExactShares2 x = new ExactShares2(1);
        x.root(x.split(0, at, x.leaf(low), x.leaf(high)));
        return x;
    }

    /** Three columns; five nodes, two roots, two rows: there is room for more of all. */
    static ExactShares2 roomy() {
        ExactShares2 x = new ExactShares2(3);
        x.leaf(11);
        x.leaf(-40);
        x.leaf(300);
        x.split(0, 2, 0, 1);
        x.split(1, -3, 3, 2);
        x.root(4);
        x.root(3);
        weights(x, 3, -7, 13);
        row(x, 5, -3, 8);
        behind(x, 2, 1, -4);
        behind(x, 60, -20, 9);
        x.group(1, 2);
        x.bar(2, true);
        return x;
    }

    /** As roomy, but that no row is behind. */
    static ExactShares2 withoutBackground() {
        ExactShares2 x = new ExactShares2(3);
        x.leaf(11);
        x.leaf(-40);
        x.split(0, 2, 0, 1);
        x.root(2);
        weights(x, 3, -7, 13);
        row(x, 5, -3, 8);
        x.group(1, 2);
        x.bar(2, true);
        return x;
    }

    /** Six columns; no room for a node, a root or a row. Every node can be reached from a root. */
    static ExactShares2 full() {
        ExactShares2 x = new ExactShares2(6);
        for (int leaf = 0; leaf < 15; leaf++) {
            x.leaf(17 * leaf - 90);
        }
        x.split(0, 4, 0, 1);
        for (int leaf = 2; leaf < 15; leaf++) {
            x.split(leaf % 6, 3 * leaf - 20, 13 + leaf, leaf);
        }
        x.split(5, 0, 28, 20);
        x.root(29);
        x.root(28);
        x.root(29);
        x.root(24);
        weights(x, 1, -2, 3, 20, -20, 7);
        row(x, 9, -8, 7, -6, 5, -4);
        behind(x, 1, 2, 3, 4, 5, 6);
        behind(x, -30, 12, 0, 44, -7, 100);
        behind(x, 100, 100, 100, 100, 100, 100);
        behind(x, -100, -100, -100, -100, -100, -100);
        behind(x, 9, 0, -1, 2, 61, -4);
        x.group(3, 1);
        x.group(0, 5);
        x.bar(4, true);
        return x;
    }
}
