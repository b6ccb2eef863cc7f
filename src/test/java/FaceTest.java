import java.io.IOException;
import java.lang.reflect.Constructor;
import java.lang.reflect.Field;
import java.lang.reflect.Member;
import java.lang.reflect.Method;
import java.lang.reflect.Modifier;
import java.nio.file.Files;
import java.nio.file.Path;
import java.util.ArrayList;
import java.util.Arrays;
import java.util.List;
import java.util.Set;
import java.util.TreeSet;
import java.util.regex.Matcher;
import java.util.regex.Pattern;

/** The public face is the document's, and nothing else of the class can be seen. */
public final class FaceTest {
    private static final String[] FACE = {
        "public ExactShares2(int)",
        "public static final long ExactShares2.NOTHING",
        "public int ExactShares2.leaf(int)",
        "public int ExactShares2.split(int,int,int,int)",
        "public int ExactShares2.root(int)",
        "public int ExactShares2.weight(int,int)",
        "public int ExactShares2.clear()",
        "public int ExactShares2.background()",
        "public int ExactShares2.item(int,int,int)",
        "public int ExactShares2.group(int,int)",
        "public long ExactShares2.answer(int)",
        "public long ExactShares2.value(int,int) throws java.lang.ArithmeticException",
        "public long ExactShares2.share(int,int,int) throws java.lang.ArithmeticException",
        "public long ExactShares2.both(int,int,int) throws java.lang.ArithmeticException",
        "public long ExactShares2.drawn(int,int,int,int) throws java.lang.ArithmeticException",
        "public long ExactShares2.partial(int,int,int) throws java.lang.ArithmeticException",
        "public long ExactShares2.worth(int,int) throws java.lang.ArithmeticException",
        "public int ExactShares2.rank(int)",
        "public int ExactShares2.bar(int,boolean)",
        "public int ExactShares2.nearest(int)",
        "public long ExactShares2.nearestAt(int,int)",
    };

    // What the interface says ahead of its calls, as the document tells it.
    private static final String[][] SAID_AHEAD = {
        {"---- the learner", "leaf", "split", "root", "weight", "clear"},
        {"---- rows", "background", "item", "group", "answer"},
        {"---- means", "value", "share", "both", "drawn", "partial", "worth", "rank"},
        {"---- the nearest row", "bar", "nearest", "nearestAt"},
    };

    public static void main(String[] args) throws IOException {
        Checks checks = new Checks();
        isTheDocuments(checks);
        saysItsPartsAheadOfTheirCalls(checks);
        keepsTheNamesOfItsCallsToItself(checks);
        checks.finish();
    }

    private static void isTheDocuments(Checks checks) {
        int modifiers = ExactShares2.class.getModifiers();
        checks.due("public", Modifier.isPublic(modifiers) ? 1 : 0, 1);
        checks.due("final", Modifier.isFinal(modifiers) ? 1 : 0, 1);
        checks.due("NOTHING", ExactShares2.NOTHING, -1000000000000L);

        Set<String> want = new TreeSet<>(Arrays.asList(FACE));
        Set<String> got = new TreeSet<>();
        for (Constructor<?> constructor : ExactShares2.class.getDeclaredConstructors()) {
            note(got, constructor, constructor.toString());
        }
        for (Method method : ExactShares2.class.getDeclaredMethods()) {
            note(got, method, method.toString());
        }
        for (Field field : ExactShares2.class.getDeclaredFields()) {
            note(got, field, field.toString());
        }
        if (!got.equals(want)) {
            System.out.println("the face is " + got + ", due is " + want);
        }
        checks.due("the face is the document's", got.equals(want) ? 1 : 0, 1);
    }

    private static void saysItsPartsAheadOfTheirCalls(Checks checks) throws IOException {
        List<String> want = new ArrayList<>();
        for (String[] part : SAID_AHEAD) {
            want.addAll(Arrays.asList(part));
        }
        List<String> got = new ArrayList<>();
        Pattern said = Pattern.compile("    // (---- .*)|    public (?:int|long) (\\w+)\\(.*");
        for (String line : Files.readAllLines(Path.of("src/main/java/ExactShares2.java"))) {
            Matcher found = said.matcher(line);
            if (found.matches()) {
                got.add(found.group(1) != null ? found.group(1) : found.group(2));
            }
        }
        checks.dueSame("what is said ahead of the calls", got, want);
    }

    private static void keepsTheNamesOfItsCallsToItself(Checks checks) {
        Set<String> names = new TreeSet<>();
        for (Method method : ExactShares2.class.getDeclaredMethods()) {
            if (Modifier.isPublic(method.getModifiers())) {
                names.add(method.getName());
            }
        }
        List<Class<?>> classes = new ArrayList<>();
        classes.add(ExactShares2.class);
        classes.addAll(Arrays.asList(ExactShares2.class.getDeclaredClasses()));
        for (Class<?> owner : classes) {
            for (Method method : owner.getDeclaredMethods()) {
                boolean isHidden = !Modifier.isPublic(method.getModifiers());
                boolean isTaken = isHidden && names.contains(method.getName());
                checks.due(method + " bears the name of a call", isTaken ? 1 : 0, 0);
            }
        }
    }

    private static void note(Set<String> seen, Member member, String text) {
        if (!Modifier.isPrivate(member.getModifiers()) && !member.isSynthetic()) {
            seen.add(text);
        }
    }
}
