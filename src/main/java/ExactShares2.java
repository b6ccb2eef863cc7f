/**
 * What each column of a row has to do with an answer, exactly.
 *
 * <p>All sums are kept whole; a fraction is made only when it is told. The arrays are made
 * once, with the object, so that no call makes anything but an exception.
 */
public final class ExactShares2 {
    public static final long NOTHING = -1000000000000L;

    private static final int NO_SUCH = -1;
    private static final int OUTSIDE = -2;
    private static final int NONE = -3;
    private static final int NO_ROOM = -4;

    private static final int THE_ROW = -1;
    private static final int MOST_COLUMNS = 6;
    private static final int MOST_NODES = 30;
    private static final int MOST_ROOTS = 4;
    private static final int MOST_ROWS = 5;
    private static final int MOST_ORDERS = 20;
    private static final int LEAF_BOUND = 1000;
    private static final int ITEM_BOUND = 100;
    private static final int WEIGHT_BOUND = 20;

    private static final int BY_ORDERS = 0;
    private static final int BY_SETS = 1;
    private static final int ABOVE = 0;
    private static final int BELOW = 1;

    private final int columns;
    private final Learner learner;
    private final Rows rows;
    private final Groups groups;
    private final Means means;
    private final Search search;

    public ExactShares2(int columns) {
        this.columns = Math.max(1, Math.min(MOST_COLUMNS, columns));
        learner = new Learner();
        rows = new Rows();
        groups = new Groups(this.columns);
        means = new Means(learner, rows, groups);
        search = new Search(this.columns, learner, rows);
    }

    // ---- the learner

    public int leaf(int value) {
        if (!isWithin(value, LEAF_BOUND)) {
            return OUTSIDE;
        }
        return learner.addLeaf(value);
    }

    public int split(int column, int at, int low, int high) {
        if (!isColumn(column) || !learner.hasNode(low) || !learner.hasNode(high)) {
            return NO_SUCH;
        }
        if (!isWithin(at, ITEM_BOUND)) {
            return OUTSIDE;
        }
        return learner.addSplit(column, at, low, high);
    }

    public int root(int node) {
        if (!learner.hasNode(node)) {
            return NO_SUCH;
        }
        return learner.addRoot(node);
    }

    public int weight(int column, int weight) {
        if (!isColumn(column)) {
            return NO_SUCH;
        }
        if (!isWithin(weight, WEIGHT_BOUND)) {
            return OUTSIDE;
        }
        learner.weigh(column, weight);
        return 1;
    }

    public int clear() {
        int nodes = learner.forget();
        rows.forget();
        groups.standAlone();
        search.unbarAll();
        return nodes;
    }

    // ---- rows

    public int background() {
        return rows.addRow();
    }

    public int item(int row, int column, int v) {
        if (!rows.has(row) || !isColumn(column)) {
            return NO_SUCH;
        }
        if (!isWithin(v, ITEM_BOUND)) {
            return OUTSIDE;
        }
        rows.at(row)[column] = v;
        return 1;
    }

    public int group(int column, int group) {
        if (!isColumn(column)) {
            return NO_SUCH;
        }
        if (!isColumn(group)) {
            return OUTSIDE;
        }
        return groups.move(column, group);
    }

    public long answer(int row) {
        if (!rows.has(row)) {
            return NOTHING;
        }
        return learner.sumFor(rows.at(row));
    }

    // ---- means

    public long value(int set, int part) throws ArithmeticException {
        if (set < 0 || set >= 1 << columns || !isPart(part)) {
            return NOTHING;
        }
        return told(means.total(set), rows.count(), part);
    }

    public long share(int column, int manner, int part) throws ArithmeticException {
        if (!isColumn(column) || !isManner(manner) || !isPart(part)) {
            return NOTHING;
        }
        long sum = means.shareSum(groups.ofColumn(column), manner);
        return told(sum, means.shareWays(manner) * rows.count(), part);
    }

    public long both(int column, int other, int part) throws ArithmeticException {
        if (!isColumn(column) || !isColumn(other) || !isPart(part)) {
            return NOTHING;
        }
        int first = groups.ofColumn(column);
        int second = groups.ofColumn(other);
        if (first == second) {
            return NOTHING;
        }
        return told(means.togetherSum(first, second), means.togetherWays() * rows.count(), part);
    }

    public long drawn(int column, int seed, int orders, int part) throws ArithmeticException {
        if (!isColumn(column) || !isPart(part) || orders < 1 || orders > MOST_ORDERS) {
            return NOTHING;
        }
        long sum = means.drawnSum(groups.ofColumn(column), seed, orders);
        return told(sum, (long) orders * rows.count(), part);
    }

    public long partial(int column, int v, int part) throws ArithmeticException {
        if (!isColumn(column) || !isPart(part) || !isWithin(v, ITEM_BOUND)) {
            return NOTHING;
        }
        return told(means.replacedSum(column, v), rows.count(), part);
    }

    public long worth(int column, int part) throws ArithmeticException {
        if (!isColumn(column) || !isPart(part)) {
            return NOTHING;
        }
        return told(means.changeSum(column), (long) rows.count() * rows.count(), part);
    }

    public int rank(int i) {
        if (i < 0 || i >= groups.count()) {
            return NO_SUCH;
        }
        if (rows.count() == 0) {
            return NONE;
        }
        means.measureShares();
        return means.groupAtPlace(i);
    }

    // ---- the nearest row

    public int bar(int column, boolean is) {
        if (!isColumn(column)) {
            return NO_SUCH;
        }
        return search.setBarred(column, is) ? 1 : 0;
    }

    public int nearest(int goal) {
        return search.find(goal) ? search.differing() : NONE;
    }

    public long nearestAt(int goal, int column) {
        if (!isColumn(column) || !search.find(goal)) {
            return NOTHING;
        }
        return search.foundIn(column);
    }

    private boolean isColumn(int column) {
        return column >= 0 && column < columns;
    }

    private static boolean isPart(int part) {
        return part == ABOVE || part == BELOW;
    }

    private static boolean isManner(int manner) {
        return manner == BY_ORDERS || manner == BY_SETS;
    }

    private static boolean isWithin(int number, int bound) {
        return number >= -bound && number <= bound;
    }

    // Every mean divides by the number of background rows, so a divisor of 0 says there is none.
    private static long told(long above, long below, int part) throws ArithmeticException {
        if (below <= 0) {
            throw new ArithmeticException("there is no background row");
        }
        long common = commonDivisor(Math.abs(above), below);
        if (common <= 0) {
            return NOTHING;
        }
        return part == ABOVE ? above / common : below / common;
    }

    private static long commonDivisor(long one, long other) {
        // Euclid's steps for two longs are fewer than 100.
        long greater = one;
        long less = other;
        for (int step = 0; step < 100 && less != 0; step++) {
            long rest = greater % less;
            greater = less;
            less = rest;
        }
        return greater;
    }

    private static long factorial(int number) {
        long product = 1;
        for (int factor = 2; factor <= number; factor++) {
            product *= factor;
        }
        return product;
    }

    /** The nodes, roots and weights. A split's nodes always have lower numbers than its own. */
    private static final class Learner {
        private static final int LEAF = -1;

        private final int[] columnOf = new int[MOST_NODES];
        // A leaf's value, or a split's bound.
        private final int[] numberOf = new int[MOST_NODES];
        private final int[] lowOf = new int[MOST_NODES];
        private final int[] highOf = new int[MOST_NODES];
        private final int[] peaks = new int[MOST_NODES];
        private final int[] roots = new int[MOST_ROOTS];
        private final int[] weights = new int[MOST_COLUMNS];
        private int nodeCount = 0;
        private int rootCount = 0;

        boolean hasNode(int node) {
            return node >= 0 && node < nodeCount;
        }

        int addLeaf(int number) {
            return addNode(LEAF, number, 0, 0);
        }

        int addSplit(int column, int at, int low, int high) {
            return addNode(column, at, low, high);
        }

        private int addNode(int column, int number, int low, int high) {
            if (nodeCount >= MOST_NODES) {
                return NO_ROOM;
            }
            columnOf[nodeCount] = column;
            numberOf[nodeCount] = number;
            lowOf[nodeCount] = low;
            highOf[nodeCount] = high;
            nodeCount++;
            return nodeCount - 1;
        }

        int addRoot(int node) {
            if (rootCount >= MOST_ROOTS) {
                return NO_ROOM;
            }
            roots[rootCount] = node;
            rootCount++;
            return rootCount;
        }

        void weigh(int column, int number) {
            weights[column] = number;
        }

        int forget() {
            int nodes = nodeCount;
            nodeCount = 0;
            rootCount = 0;
            for (int column = 0; column < MOST_COLUMNS; column++) {
                weights[column] = 0;
            }
            return nodes;
        }

        int sumFor(int[] row) {
            int sum = 0;
            for (int place = 0; place < rootCount; place++) {
                sum += givenBy(roots[place], row);
            }
            for (int column = 0; column < MOST_COLUMNS; column++) {
                sum += weights[column] * row[column];
            }
            return sum;
        }

        private int givenBy(int node, int[] row) {
            int here = node;
            for (int step = 0; step < nodeCount && columnOf[here] != LEAF; step++) {
                boolean isLow = row[columnOf[here]] <= numberOf[here];
                here = isLow ? lowOf[here] : highOf[here];
            }
            return numberOf[here];
        }

        /** No row between these two has a greater sum; where they are one row, it is its sum. */
        int boundWithin(int[] least, int[] most) {
            for (int node = 0; node < nodeCount; node++) {
                peaks[node] = peakOf(node, least, most);
            }
            int sum = 0;
            for (int place = 0; place < rootCount; place++) {
                sum += peaks[roots[place]];
            }
            for (int column = 0; column < MOST_COLUMNS; column++) {
                sum += Math.max(weights[column] * least[column], weights[column] * most[column]);
            }
            return sum;
        }

        private int peakOf(int node, int[] least, int[] most) {
            int column = columnOf[node];
            if (column == LEAF) {
                return numberOf[node];
            }
            if (most[column] <= numberOf[node]) {
                return peaks[lowOf[node]];
            }
            if (least[column] > numberOf[node]) {
                return peaks[highOf[node]];
            }
            return Math.max(peaks[lowOf[node]], peaks[highOf[node]]);
        }
    }

    /** The row that is looked at, and those in the background. */
    private static final class Rows {
        private final int[] looked = new int[MOST_COLUMNS];
        private final int[][] behind = new int[MOST_ROWS][MOST_COLUMNS];
        private int count = 0;

        int count() {
            return count;
        }

        boolean has(int row) {
            return row >= THE_ROW && row < count;
        }

        int[] at(int row) {
            return row >= 0 && row < MOST_ROWS ? behind[row] : looked;
        }

        int addRow() {
            if (count >= MOST_ROWS) {
                return NO_ROOM;
            }
            // The place may still hold what it had before a clear.
            empty(behind[count]);
            count++;
            return count - 1;
        }

        void forget() {
            empty(looked);
            count = 0;
        }

        private static void empty(int[] row) {
            for (int column = 0; column < row.length; column++) {
                row[column] = 0;
            }
        }
    }

    /** Which column is in which group. Sets of columns and of groups are bits of an int. */
    private static final class Groups {
        private final int columns;
        private final int[] groupOf = new int[MOST_COLUMNS];

        Groups(int columns) {
            this.columns = columns;
            standAlone();
        }

        void standAlone() {
            for (int column = 0; column < MOST_COLUMNS; column++) {
                groupOf[column] = column;
            }
        }

        int ofColumn(int column) {
            return groupOf[column];
        }

        int move(int column, int to) {
            int from = groupOf[column];
            groupOf[column] = to;
            return from;
        }

        int there() {
            int found = 0;
            for (int column = 0; column < columns; column++) {
                found |= 1 << groupOf[column];
            }
            return found;
        }

        int count() {
            return Integer.bitCount(there());
        }

        int columnsOf(int chosen) {
            int set = 0;
            for (int column = 0; column < columns; column++) {
                if ((chosen >> groupOf[column] & 1) == 1) {
                    set |= 1 << column;
                }
            }
            return set;
        }
    }

    /** Orders of groups, drawn one behind the other from one seed. */
    private static final class Orders {
        private final Groups groups;
        private final int[] order = new int[MOST_COLUMNS];
        private int count = 0;
        private int z = 0;

        Orders(Groups groups) {
            this.groups = groups;
        }

        void start(int seed) {
            z = seed;
        }

        void drawNext() {
            lineUp();
            for (int place = count - 1; place >= 1; place--) {
                int other = below(place + 1);
                int kept = order[place];
                order[place] = order[other];
                order[other] = kept;
            }
        }

        private void lineUp() {
            int there = groups.there();
            count = 0;
            for (int group = 0; group < MOST_COLUMNS; group++) {
                if ((there >> group & 1) == 1) {
                    order[count] = group;
                    count++;
                }
            }
        }

        private int below(int bound) {
            z = z * 1103515245 + 12345;
            return bound > 0 ? (z >>> 16) % bound : 0;
        }

        int groupsBefore(int group) {
            int before = 0;
            for (int place = 0; place < count && order[place] != group; place++) {
                before |= 1 << order[place];
            }
            return before;
        }
    }

    /** Sums over rows, sets and orders; whoever tells them divides by how many there are. */
    private static final class Means {
        private final Learner learner;
        private final Rows rows;
        private final Groups groups;
        private final Orders orders;
        private final int[] mixed = new int[MOST_COLUMNS];
        private final long[] sizes = new long[MOST_COLUMNS];

        Means(Learner learner, Rows rows, Groups groups) {
            this.learner = learner;
            this.rows = rows;
            this.groups = groups;
            this.orders = new Orders(groups);
        }

        /** The value of a set, times the number of background rows. */
        long total(int set) {
            long sum = 0;
            for (int row = 0; row < rows.count(); row++) {
                mix(set, rows.at(THE_ROW), rows.at(row));
                sum += learner.sumFor(mixed);
            }
            return sum;
        }

        private void mix(int set, int[] inside, int[] outside) {
            for (int column = 0; column < MOST_COLUMNS; column++) {
                mixed[column] = (set >> column & 1) == 1 ? inside[column] : outside[column];
            }
        }

        private long brought(int before, int own) {
            return total(before | own) - total(before);
        }

        long shareSum(int group, int manner) {
            int others = groups.there() & ~(1 << group);
            int own = groups.columnsOf(1 << group);
            int count = Integer.bitCount(others);
            long sum = 0;
            for (int chosen = 0; chosen <= others; chosen++) {
                if ((chosen & ~others) == 0) {
                    long ways = manner == BY_SETS ? 1 : ordersAround(chosen, count);
                    sum += ways * brought(groups.columnsOf(chosen), own);
                }
            }
            return sum;
        }

        long shareWays(int manner) {
            int count = groups.count();
            return manner == BY_SETS ? 1L << (count - 1) : factorial(count);
        }

        /** In how many orders just the chosen ones, of so many others, stand before a group. */
        private static long ordersAround(int chosen, int others) {
            int before = Integer.bitCount(chosen);
            return factorial(before) * factorial(others - before);
        }

        long togetherSum(int first, int second) {
            int others = groups.there() & ~(1 << first) & ~(1 << second);
            int firstOwn = groups.columnsOf(1 << first);
            int secondOwn = groups.columnsOf(1 << second);
            int count = Integer.bitCount(others);
            long sum = 0;
            for (int chosen = 0; chosen <= others; chosen++) {
                if ((chosen & ~others) == 0) {
                    int before = groups.columnsOf(chosen);
                    long more = brought(before | secondOwn, firstOwn) - brought(before, firstOwn);
                    sum += ordersAround(chosen, count) * more;
                }
            }
            return sum;
        }

        long togetherWays() {
            return factorial(groups.count() - 1);
        }

        long drawnSum(int group, int seed, int times) {
            int own = groups.columnsOf(1 << group);
            long sum = 0;
            orders.start(seed);
            for (int time = 0; time < times; time++) {
                orders.drawNext();
                sum += brought(groups.columnsOf(orders.groupsBefore(group)), own);
            }
            return sum;
        }

        long replacedSum(int column, int v) {
            long sum = 0;
            for (int row = 0; row < rows.count(); row++) {
                sum += sumWith(rows.at(row), column, v);
            }
            return sum;
        }

        private long sumWith(int[] row, int column, int v) {
            for (int place = 0; place < MOST_COLUMNS; place++) {
                mixed[place] = place == column ? v : row[place];
            }
            return learner.sumFor(mixed);
        }

        long changeSum(int column) {
            long sum = 0;
            for (int first = 0; first < rows.count(); first++) {
                int[] row = rows.at(first);
                long plain = learner.sumFor(row);
                for (int second = 0; second < rows.count(); second++) {
                    long change = sumWith(row, column, rows.at(second)[column]) - plain;
                    sum += change * change;
                }
            }
            return sum;
        }

        // All shares have one divisor, so their sums compare as they do.
        void measureShares() {
            int there = groups.there();
            for (int group = 0; group < MOST_COLUMNS; group++) {
                boolean isThere = (there >> group & 1) == 1;
                sizes[group] = isThere ? Math.abs(shareSum(group, BY_ORDERS)) : 0;
            }
        }

        int groupAtPlace(int place) {
            int there = groups.there();
            for (int group = 0; group < MOST_COLUMNS; group++) {
                if ((there >> group & 1) == 1 && countAhead(group, there) == place) {
                    return group;
                }
            }
            return NO_SUCH;
        }

        private int countAhead(int group, int there) {
            int ahead = 0;
            for (int other = 0; other < MOST_COLUMNS; other++) {
                boolean isEarlierTie = sizes[other] == sizes[group] && other < group;
                boolean isAhead = sizes[other] > sizes[group] || isEarlierTie;
                if ((there >> other & 1) == 1 && isAhead) {
                    ahead++;
                }
            }
            return ahead;
        }
    }

    /** The nearest row that answers as wanted. */
    private static final class Search {
        // Above any sum of distances, so that fewer columns always cost less.
        private static final int COLUMN_COST = 10000;
        private static final int NOT_FOUND = 1000000;

        private final int columns;
        private final Learner learner;
        private final Rows rows;
        private final boolean[] barred = new boolean[MOST_COLUMNS];
        private final int[][] choices = new int[MOST_COLUMNS][MOST_ROWS + 1];
        private final int[] choiceCounts = new int[MOST_COLUMNS];
        // The rows still open: in a column that is settled both hold the one choice.
        private final int[] least = new int[MOST_COLUMNS];
        private final int[] most = new int[MOST_COLUMNS];
        private final int[] best = new int[MOST_COLUMNS];
        private int bestCost = NOT_FOUND;
        private int wanted = 0;

        Search(int columns, Learner learner, Rows rows) {
            this.columns = columns;
            this.learner = learner;
            this.rows = rows;
        }

        boolean setBarred(int column, boolean is) {
            boolean was = barred[column];
            barred[column] = is;
            return was;
        }

        void unbarAll() {
            for (int column = 0; column < MOST_COLUMNS; column++) {
                barred[column] = false;
            }
        }

        boolean find(int goal) {
            wanted = goal;
            bestCost = NOT_FOUND;
            for (int column = 0; column < columns; column++) {
                gatherChoices(column);
                open(column);
            }
            visit(0, 0);
            return bestCost < NOT_FOUND;
        }

        int differing() {
            return bestCost / COLUMN_COST;
        }

        int foundIn(int column) {
            return best[column];
        }

        private void gatherChoices(int column) {
            choiceCounts[column] = 0;
            addChoice(column, rows.at(THE_ROW)[column]);
            if (barred[column]) {
                return;
            }
            for (int row = 0; row < rows.count(); row++) {
                addChoice(column, rows.at(row)[column]);
            }
        }

        // Choices rise and none is there twice: then rows are visited in the order of ties.
        private void addChoice(int column, int v) {
            int[] sorted = choices[column];
            int count = choiceCounts[column];
            int place = 0;
            while (place < count && sorted[place] < v) {
                place++;
            }
            boolean isThere = place < count && sorted[place] == v;
            if (isThere || count >= sorted.length) {
                return;
            }
            for (int later = count; later > place; later--) {
                sorted[later] = sorted[later - 1];
            }
            sorted[place] = v;
            choiceCounts[column] = count + 1;
        }

        private void open(int column) {
            least[column] = choices[column][0];
            most[column] = choices[column][choiceCounts[column] - 1];
        }

        private void visit(int column, int cost) {
            if (cost >= bestCost || learner.boundWithin(least, most) < wanted) {
                return;
            }
            if (column < columns) {
                settle(column, cost);
            } else {
                keep(cost);
            }
        }

        private void settle(int column, int cost) {
            for (int choice = 0; choice < choiceCounts[column]; choice++) {
                int v = choices[column][choice];
                least[column] = v;
                most[column] = v;
                visit(column + 1, cost + costOf(column, v));
            }
            open(column);
        }

        private int costOf(int column, int v) {
            int distance = Math.abs(v - rows.at(THE_ROW)[column]);
            return distance == 0 ? 0 : COLUMN_COST + distance;
        }

        private void keep(int cost) {
            bestCost = cost;
            for (int column = 0; column < columns; column++) {
                best[column] = least[column];
            }
        }
    }
}
