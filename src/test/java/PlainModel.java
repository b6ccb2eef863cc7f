import java.math.BigInteger;
import java.util.ArrayList;
import java.util.Arrays;
import java.util.Collections;
import java.util.List;
import java.util.TreeSet;

/**
 * The document's words again, as slowly and plainly as they can be said: every order is walked,
 * every row that could be the nearest is made. It takes no input that is to be refused, but for
 * what {@link AgainstPlainModelTest} says.
 */
final class PlainModel {
    final int columns;
    final List<int[]> nodes = new ArrayList<>();
    final List<Integer> roots = new ArrayList<>();
    final List<int[]> background = new ArrayList<>();
    final int[] weights;
    final int[] row;
    final int[] groups;
    final boolean[] barred;

    PlainModel(int columns) {
        this.columns = columns;
        weights = new int[columns];
        row = new int[columns];
        groups = new int[columns];
        barred = new boolean[columns];
        forget();
    }

    void forget() {
        nodes.clear();
        roots.clear();
        background.clear();
        Arrays.fill(weights, 0);
        Arrays.fill(row, 0);
        Arrays.fill(barred, false);
        for (int column = 0; column < columns; column++) {
            groups[column] = column;
        }
    }

    /** A leaf is {value}, a split {column, at, low, high}. */
    private long gives(int number, int[] of) {
        int[] node = nodes.get(number);
        if (node.length == 1) {
            return node[0];
        }
        return of[node[0]] <= node[1] ? gives(node[2], of) : gives(node[3], of);
    }

    long answer(int[] of) {
        long sum = 0;
        for (int root : roots) {
            sum += gives(root, of);
        }
        for (int column = 0; column < columns; column++) {
            sum += (long) weights[column] * of[column];
        }
        return sum;
    }

    Fraction value(int set) {
        List<Fraction> all = new ArrayList<>();
        for (int[] other : background) {
            int[] mixed = other.clone();
            for (int column = 0; column < columns; column++) {
                if ((set & 1 << column) != 0) {
                    mixed[column] = row[column];
                }
            }
            all.add(Fraction.of(answer(mixed)));
        }
        return Fraction.mean(all);
    }

    private int columnsOf(int group) {
        int set = 0;
        for (int column = 0; column < columns; column++) {
            if (groups[column] == group) {
                set |= 1 << column;
            }
        }
        return set;
    }

    List<Integer> there() {
        TreeSet<Integer> found = new TreeSet<>();
        for (int group : groups) {
            found.add(group);
        }
        return new ArrayList<>(found);
    }

    private static void orders(List<Integer> open, List<Integer> begun, List<List<Integer>> all) {
        if (open.isEmpty()) {
            all.add(new ArrayList<>(begun));
        }
        for (Integer next : open) {
            List<Integer> rest = new ArrayList<>(open);
            rest.remove(next);
            begun.add(next);
            orders(rest, begun, all);
            begun.remove(begun.size() - 1);
        }
    }

    private static List<List<Integer>> allOrders(List<Integer> of) {
        List<List<Integer>> all = new ArrayList<>();
        orders(of, new ArrayList<>(), all);
        return all;
    }

    private int columnsBefore(int group, List<Integer> order) {
        int set = 0;
        for (int other : order) {
            if (other == group) {
                return set;
            }
            set |= columnsOf(other);
        }
        throw new AssertionError("the group is not in the order");
    }

    private Fraction brings(int group, List<Integer> order) {
        int before = columnsBefore(group, order);
        return value(before | columnsOf(group)).minus(value(before));
    }

    Fraction shareByOrders(int group) {
        List<Fraction> all = new ArrayList<>();
        for (List<Integer> order : allOrders(there())) {
            all.add(brings(group, order));
        }
        return Fraction.mean(all);
    }

    Fraction shareBySets(int group) {
        List<Integer> others = there();
        others.remove(Integer.valueOf(group));
        List<Fraction> all = new ArrayList<>();
        for (int chosen = 0; chosen < 1 << others.size(); chosen++) {
            int set = 0;
            for (int i = 0; i < others.size(); i++) {
                if ((chosen & 1 << i) != 0) {
                    set |= columnsOf(others.get(i));
                }
            }
            all.add(value(set | columnsOf(group)).minus(value(set)));
        }
        return Fraction.mean(all);
    }

    Fraction together(int first, int second) {
        List<Integer> joined = there();
        joined.remove(Integer.valueOf(second));
        int a = columnsOf(first);
        int b = columnsOf(second);
        List<Fraction> all = new ArrayList<>();
        for (List<Integer> order : allOrders(joined)) {
            int p = columnsBefore(first, order);
            all.add(value(p | a | b).minus(value(p | a)).minus(value(p | b)).plus(value(p)));
        }
        return Fraction.mean(all);
    }

    Fraction drawn(int group, int seed, int orders) {
        long z = seed & 0xffffffffL;
        List<Fraction> all = new ArrayList<>();
        for (int time = 0; time < orders; time++) {
            List<Integer> order = there();
            for (int i = order.size() - 1; i >= 1; i--) {
                z = z * 1103515245L + 12345L & 0xffffffffL;
                Collections.swap(order, i, (int) ((z >> 16) % (i + 1)));
            }
            all.add(brings(group, order));
        }
        return Fraction.mean(all);
    }

    private long answerWith(int[] of, int column, int v) {
        int[] changed = of.clone();
        changed[column] = v;
        return answer(changed);
    }

    Fraction partial(int column, int v) {
        List<Fraction> all = new ArrayList<>();
        for (int[] other : background) {
            all.add(Fraction.of(answerWith(other, column, v)));
        }
        return Fraction.mean(all);
    }

    Fraction worth(int column) {
        List<Fraction> all = new ArrayList<>();
        for (int[] first : background) {
            for (int[] second : background) {
                long change = answerWith(first, column, second[column]) - answer(first);
                all.add(Fraction.of(change * change));
            }
        }
        return Fraction.mean(all);
    }

    List<Integer> ranking() {
        List<Fraction> sizes = new ArrayList<>();
        for (int group = 0; group < columns; group++) {
            sizes.add(there().contains(group) ? shareByOrders(group).size() : Fraction.of(0));
        }
        List<Integer> sorted = there();
        sorted.sort((one, other) -> sizes.get(other).compareTo(sizes.get(one)));
        return sorted;
    }

    /** The nearest row, or null. */
    int[] nearest(int goal) {
        int[] best = null;
        int ways = (int) Math.pow(background.size() + 1, columns);
        for (int way = 0; way < ways; way++) {
            int[] made = row.clone();
            int rest = way;
            for (int column = 0; column < columns; column++) {
                int from = rest % (background.size() + 1);
                rest /= background.size() + 1;
                if (from > 0 && !barred[column]) {
                    made[column] = background.get(from - 1)[column];
                }
            }
            if (answer(made) >= goal && (best == null || isNearer(made, best))) {
                best = made;
            }
        }
        return best;
    }

    private boolean isNearer(int[] one, int[] other) {
        if (differing(one) != differing(other)) {
            return differing(one) < differing(other);
        }
        if (distance(one) != distance(other)) {
            return distance(one) < distance(other);
        }
        return Arrays.compare(one, other) < 0;
    }

    int differing(int[] made) {
        int count = 0;
        for (int column = 0; column < columns; column++) {
            count += made[column] != row[column] ? 1 : 0;
        }
        return count;
    }

    private int distance(int[] made) {
        int sum = 0;
        for (int column = 0; column < columns; column++) {
            sum += Math.abs(made[column] - row[column]);
        }
        return sum;
    }

    /** A fraction in lowest terms, what is below above 0. */
    static final class Fraction implements Comparable<Fraction> {
        final BigInteger above;
        final BigInteger below;

        private Fraction(BigInteger above, BigInteger below) {
            BigInteger common = above.gcd(below);
            this.above = above.divide(common);
            this.below = below.divide(common);
        }

        static Fraction of(long whole) {
            return new Fraction(BigInteger.valueOf(whole), BigInteger.ONE);
        }

        static Fraction mean(List<Fraction> all) {
            Fraction sum = of(0);
            for (Fraction one : all) {
                sum = sum.plus(one);
            }
            return new Fraction(sum.above, sum.below.multiply(BigInteger.valueOf(all.size())));
        }

        Fraction plus(Fraction other) {
            BigInteger sum = above.multiply(other.below).add(other.above.multiply(below));
            return new Fraction(sum, below.multiply(other.below));
        }

        Fraction minus(Fraction other) {
            return plus(new Fraction(other.above.negate(), other.below));
        }

        Fraction size() {
            return new Fraction(above.abs(), below);
        }

        @Override
        public int compareTo(Fraction other) {
            return above.multiply(other.below).compareTo(other.above.multiply(below));
        }
    }
}
