/** Promises 1 to 6: a new object, leaf, split, root, weight, clear. */
public final class LearnerTest {
    private static final Checks CHECKS = new Checks();

    public static void main(String[] args) {
        newObject();
        leaf();
        split();
        splitTakesHighAboveAt();
        root();
        weight();
        clear();
        CHECKS.finish();
    }

    private static void newObject() {
        int[] asked = {Integer.MIN_VALUE, -1, 0, 1, 2, 3, 4, 5, 6, 7, 100, Integer.MAX_VALUE};
        int[] want = {1, 1, 1, 1, 2, 3, 4, 5, 6, 6, 6, 6};
        for (int i = 0; i < asked.length; i++) {
            ExactShares2 x = new ExactShares2(asked[i]);
            String made = "new(" + asked[i] + ") ";
            CHECKS.due(made + "last column", x.weight(want[i] - 1, 0), 1);
            CHECKS.due(made + "column behind", x.weight(want[i], 0), -1);
            CHECKS.due(made + "answer", x.answer(-1), 0);
            CHECKS.due(made + "no background", x.answer(0), ExactShares2.NOTHING);
            CHECKS.due(made + "no node", x.root(0), -1);
            CHECKS.due(made + "group", x.group(want[i] - 1, 0), want[i] - 1);
            CHECKS.due(made + "bar", x.bar(0, true), 0);
            CHECKS.due(made + "clear", x.clear(), 0);
        }
    }

    private static void leaf() {
        ExactShares2 x = new ExactShares2(1);
        CHECKS.due("leaf(1001)", x.leaf(1001), -2);
        CHECKS.due("leaf(-1001)", x.leaf(-1001), -2);
        CHECKS.due("leaf(MIN)", x.leaf(Integer.MIN_VALUE), -2);
        CHECKS.due("leaf(MAX)", x.leaf(Integer.MAX_VALUE), -2);
        CHECKS.due("leaf(1000)", x.leaf(1000), 0);
        CHECKS.due("leaf(-1000)", x.leaf(-1000), 1);
        for (int node = 2; node < 30; node++) {
            CHECKS.due("leaf number", x.leaf(node), node);
        }
        CHECKS.due("leaf without room", x.leaf(0), -4);
        CHECKS.due("leaf outside, without room", x.leaf(1001), -2);
        CHECKS.due("root of the last leaf", x.root(29), 1);
        CHECKS.due("answer of the last leaf", x.answer(-1), 29);
        x.root(1);
        CHECKS.due("answer of two leaves", x.answer(-1), -971);
        CHECKS.due("clear of 30", x.clear(), 30);
        CHECKS.due("leaf after clear", x.leaf(4), 0);
    }

    private static void split() {
        ExactShares2 x = new ExactShares2(2);
        CHECKS.due("split without nodes", x.split(0, 0, 0, 0), -1);
        x.leaf(1);
        x.leaf(2);
        CHECKS.due("split(-1, ..)", x.split(-1, 0, 0, 1), -1);
        CHECKS.due("split(2, ..)", x.split(2, 0, 0, 1), -1);
        CHECKS.due("split low -1", x.split(0, 0, -1, 1), -1);
        CHECKS.due("split low 2", x.split(0, 0, 2, 1), -1);
        CHECKS.due("split high -1", x.split(0, 0, 0, -1), -1);
        CHECKS.due("split high 2", x.split(0, 0, 0, 2), -1);
        CHECKS.due("split at 101", x.split(0, 101, 0, 1), -2);
        CHECKS.due("split at -101", x.split(0, -101, 0, 1), -2);
        CHECKS.due("split at MIN", x.split(0, Integer.MIN_VALUE, 0, 1), -2);
        CHECKS.due("split no column, at 101", x.split(2, 101, 0, 1), -1);
        CHECKS.due("split no node, at 101", x.split(0, 101, 0, 9), -1);
        CHECKS.due("split at 100", x.split(0, 100, 0, 1), 2);
        CHECKS.due("split at -100", x.split(1, -100, 2, 2), 3);
        for (int node = 4; node < 30; node++) {
            CHECKS.due("split number", x.split(0, 0, node - 1, 0), node);
        }
        CHECKS.due("split without room", x.split(0, 0, 0, 1), -4);
        CHECKS.due("split at 101, without room", x.split(0, 101, 0, 1), -2);
        CHECKS.due("split no node, without room", x.split(0, 0, 30, 1), -1);
        x.root(29);
        CHECKS.due("a chain of splits, low", x.answer(-1), 1);
    }

    private static void splitTakesHighAboveAt() {
        ExactShares2 x = new ExactShares2(2);
        x.leaf(10);
        x.leaf(20);
        x.leaf(40);
        x.split(1, -7, 0, 1);
        x.split(0, 5, 3, 2);
        x.root(4);
        x.item(-1, 0, 5);
        x.item(-1, 1, -7);
        CHECKS.due("both at AT", x.answer(-1), 10);
        x.item(-1, 1, -6);
        CHECKS.due("inner one above AT", x.answer(-1), 20);
        x.item(-1, 0, 6);
        CHECKS.due("outer one above AT", x.answer(-1), 40);
        x.item(-1, 0, -100);
        CHECKS.due("outer one far below AT", x.answer(-1), 20);
    }

    private static void root() {
        ExactShares2 x = new ExactShares2(1);
        CHECKS.due("root without nodes", x.root(0), -1);
        x.leaf(7);
        x.leaf(100);
        CHECKS.due("root(-1)", x.root(-1), -1);
        CHECKS.due("root(2)", x.root(2), -1);
        CHECKS.due("no roots", x.answer(-1), 0);
        CHECKS.due("root 1", x.root(0), 1);
        CHECKS.due("root 2", x.root(0), 2);
        CHECKS.due("one twice", x.answer(-1), 14);
        CHECKS.due("root 3", x.root(1), 3);
        CHECKS.due("root 4", x.root(0), 4);
        CHECKS.due("root 5", x.root(0), -4);
        CHECKS.due("no node, no room", x.root(2), -1);
        CHECKS.due("four roots", x.answer(-1), 121);
        CHECKS.due("a node more", x.leaf(0), 2);
        CHECKS.due("four roots still", x.answer(-1), 121);
    }

    private static void weight() {
        ExactShares2 x = new ExactShares2(3);
        CHECKS.due("weight(-1, 0)", x.weight(-1, 0), -1);
        CHECKS.due("weight(3, 0)", x.weight(3, 0), -1);
        CHECKS.due("weight(3, 21)", x.weight(3, 21), -1);
        CHECKS.due("weight(0, 21)", x.weight(0, 21), -2);
        CHECKS.due("weight(0, -21)", x.weight(0, -21), -2);
        CHECKS.due("weight(0, MIN)", x.weight(0, Integer.MIN_VALUE), -2);
        CHECKS.due("weight(0, 20)", x.weight(0, 20), 1);
        CHECKS.due("weight(2, -20)", x.weight(2, -20), 1);
        x.item(-1, 0, 100);
        x.item(-1, 1, 50);
        x.item(-1, 2, 1);
        CHECKS.due("weighted", x.answer(-1), 1980);
        CHECKS.due("weight again", x.weight(0, 1), 1);
        CHECKS.due("weighted again", x.answer(-1), 80);
        CHECKS.due("refused", x.weight(0, 21), -2);
        CHECKS.due("weighted still", x.answer(-1), 80);
    }

    private static void clear() {
        ExactShares2 x = new ExactShares2(3);
        x.leaf(5);
        x.leaf(6);
        x.split(0, 0, 0, 1);
        x.root(2);
        x.root(1);
        x.weight(1, 3);
        x.item(-1, 1, 9);
        x.background();
        x.background();
        x.item(0, 1, 8);
        x.item(1, 2, 7);
        x.group(0, 2);
        x.bar(1, true);
        CHECKS.due("answer before", x.answer(-1), 38);
        CHECKS.due("clear()", x.clear(), 3);
        CHECKS.due("answer after", x.answer(-1), 0);
        CHECKS.due("no background", x.answer(0), ExactShares2.NOTHING);
        CHECKS.due("no node", x.root(0), -1);
        CHECKS.due("bar after", x.bar(1, false), 0);
        CHECKS.due("group after", x.group(0, 0), 0);
        for (int column = 0; column < 3; column++) {
            x.weight(column, 1);
        }
        CHECKS.due("the row is 0s", x.answer(-1), 0);
        CHECKS.due("background is 0", x.background(), 0);
        CHECKS.due("background is 1", x.background(), 1);
        CHECKS.due("a used place is 0s", x.answer(0), 0);
        CHECKS.due("another used place is 0s", x.answer(1), 0);
        x.item(-1, 1, 9);
        x.weight(1, 0);
        CHECKS.due("first root again", x.leaf(11) + x.root(0), 1);
        CHECKS.due("answer of it", x.answer(-1), 11);
        CHECKS.due("clear again", x.clear(), 1);
        CHECKS.due("clear of nothing", x.clear(), 0);
        x.item(-1, 0, 1);
        x.item(-1, 1, 1);
        x.item(-1, 2, 1);
        CHECKS.due("weights are 0", x.answer(-1), 0);
    }
}
