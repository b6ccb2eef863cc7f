import java.util.List;
import java.util.function.IntToLongFunction;
import java.util.function.LongSupplier;

/** Counts the answers that are not the ones due, and prints each. */
final class Checks {
    private int wrong = 0;
    private int asked = 0;

    int asked() {
        return asked;
    }

    void due(String call, long got, long want) {
        asked++;
        if (got != want) {
            wrong++;
            System.out.println(call + " answered " + got + ", due is " + want);
        }
    }

    /** Both parts of a fraction: the call is asked for part 0 and for part 1. */
    void dueFraction(String call, IntToLongFunction part, long above, long below) {
        due(call + " above", part.applyAsLong(0), above);
        due(call + " below", part.applyAsLong(1), below);
    }

    /** NOTHING for both parts, whatever else holds. */
    void dueNothing(String call, IntToLongFunction part) {
        dueFraction(call, part, ExactShares2.NOTHING, ExactShares2.NOTHING);
    }

    void dueArithmetic(String call, LongSupplier asking) {
        due(call + " throws ArithmeticException", throwsArithmetic(asking) ? 1 : 0, 1);
    }

    private static boolean throwsArithmetic(LongSupplier asking) {
        try {
            asking.getAsLong();
            return false;
        } catch (ArithmeticException e) {
            return true;
        }
    }

    /** A fraction is told for both parts, no refusal and no throw. */
    void dueTold(String call, IntToLongFunction part) {
        for (int asked = 0; asked < 2; asked++) {
            int which = asked;
            boolean isTold = !throwsArithmetic(() -> part.applyAsLong(which))
                    && part.applyAsLong(which) != ExactShares2.NOTHING;
            due(call + " part " + which + " is told", isTold ? 1 : 0, 1);
        }
    }

    /** Two lists are the same; the first lines that are not are printed. */
    void dueSame(String what, List<String> got, List<String> want) {
        asked++;
        if (got.equals(want)) {
            return;
        }
        wrong++;
        System.out.println(what + ": not the same");
        for (int line = 0; line < Math.min(got.size(), want.size()); line++) {
            if (!got.get(line).equals(want.get(line))) {
                System.out.println("  " + got.get(line) + ", due is " + want.get(line));
                return;
            }
        }
    }

    void finish() {
        System.out.println(asked + " answers asked, " + wrong + " not as due");
        if (wrong != 0 || asked == 0) {
            System.exit(1);
        }
    }
}
