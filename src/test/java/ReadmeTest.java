import java.io.File;
import java.lang.reflect.Method;
import java.lang.reflect.Modifier;
import java.net.URI;
import java.nio.file.Files;
import java.nio.file.Path;
import java.util.ArrayList;
import java.util.List;
import java.util.Set;
import java.util.TreeSet;
import java.util.function.LongSupplier;
import java.util.regex.Matcher;
import java.util.regex.Pattern;
import javax.tools.JavaCompiler;
import javax.tools.JavaFileObject;
import javax.tools.SimpleJavaFileObject;
import javax.tools.ToolProvider;

/**
 * The calls that README.md shows answer as README.md says.
 *
 * <p>Its java blocks are one program. Behind each call stands a comment that begins with the
 * answer: a number, NOTHING or throws ArithmeticException; words may follow behind a colon. The
 * calls are compiled as they are written, so that a reader can take them over.
 */
public final class ReadmeTest {
    private static final Checks CHECKS = new Checks();
    private static final Path README = Path.of("README.md");
    private static final Path TESTS = Path.of("src/test/java");
    private static final Path RUN = Path.of(".ci/run");

    private static final Pattern MAKING =
            Pattern.compile("ExactShares2 x = new ExactShares2\\(-?\\d+\\); *// .*");
    private static final Pattern CALL = Pattern.compile(
            "(?:int (\\w+) = )?(x\\.(\\w+)\\([^;]*\\)); *"
            + "// (-?\\d+|NOTHING|throws ArithmeticException)(?:: .*)?");

    private final List<String> statements = new ArrayList<>();
    private final Set<String> shown = new TreeSet<>();

    public static void main(String[] args) throws Exception {
        ReadmeTest test = new ReadmeTest();
        List<String> lines = Files.readAllLines(README);
        test.readBlocks(lines);
        test.runCalls();
        test.everyCallOfTheFaceIsShown();
        everyTestIsNamed(String.join("\n", lines));
        theWayToRunThemIsSaid(lines);
        CHECKS.finish();
    }

    private void readBlocks(List<String> lines) {
        boolean isInside = false;
        for (int place = 0; place < lines.size(); place++) {
            String line = lines.get(place);
            if (line.startsWith("```")) {
                isInside = line.equals("```java");
            } else if (isInside && !line.isBlank()) {
                readLine(line, "README.md line " + (place + 1) + ": ");
            }
        }
        CHECKS.due("README.md ends outside of a block", isInside ? 1 : 0, 0);
    }

    // A line of another form would go unlooked at, so it is a fault.
    private void readLine(String line, String where) {
        Matcher call = CALL.matcher(line);
        if (call.matches()) {
            shown.add(call.group(3));
            addCall(call, where);
        } else {
            boolean isMaking = MAKING.matcher(line).matches();
            CHECKS.due(where + "a call with its answer: " + line, isMaking ? 1 : 0, 1);
            statements.add(isMaking ? line : "");
        }
    }

    private void addCall(Matcher call, String where) {
        String asking = call.group(2);
        if (call.group(1) != null) {
            statements.add("int " + call.group(1) + " = " + asking + ";");
            asking = call.group(1);
        }
        statements.add("ReadmeTest.due(\"" + where + call.group(2) + "\", \"" + call.group(4)
                + "\", () -> " + asking + ");");
    }

    /** What the program made of README.md calls, once for each answer that README.md tells. */
    static void due(String call, String want, LongSupplier asking) {
        if (want.startsWith("throws")) {
            CHECKS.dueArithmetic(call, asking);
        } else {
            long told = want.equals("NOTHING") ? ExactShares2.NOTHING : Long.parseLong(want);
            CHECKS.due(call, answered(call, asking), told);
        }
    }

    private static long answered(String call, LongSupplier asking) {
        try {
            return asking.getAsLong();
        } catch (ArithmeticException e) {
            System.out.println(call + " threw ArithmeticException");
            return Long.MIN_VALUE;
        }
    }

    private void runCalls() throws Exception {
        String program = "final class ReadmeCalls {\n    static void run() {\n        "
                + String.join("\n        ", statements) + "\n    }\n}\n";
        boolean isCompiled = compile("ReadmeCalls", program);
        CHECKS.due("the blocks of README.md compile", isCompiled ? 1 : 0, 1);
        if (!isCompiled) {
            return;
        }
        Method run = Class.forName("ReadmeCalls").getDeclaredMethod("run");
        int before = CHECKS.asked();
        run.invoke(null);
        CHECKS.due("README.md shows calls", CHECKS.asked() > before ? 1 : 0, 1);
    }

    // Compiled beside this class, so that it is found and may call what is not public.
    private static boolean compile(String name, String program) {
        String classes = System.getProperty("java.class.path");
        JavaCompiler compiler = ToolProvider.getSystemJavaCompiler();
        JavaFileObject source = new Source(name, program);
        List<String> options = List.of("-cp", classes, "-d", classes);
        return compiler.getTask(null, null, null, options, null, List.of(source)).call();
    }

    private static final class Source extends SimpleJavaFileObject {
        private final String program;

        Source(String name, String program) {
            super(URI.create("string:///" + name + ".java"), Kind.SOURCE);
            this.program = program;
        }

        @Override
        public CharSequence getCharContent(boolean ignoreEncodingErrors) {
            return program;
        }
    }

    private void everyCallOfTheFaceIsShown() {
        for (Method method : ExactShares2.class.getDeclaredMethods()) {
            if (Modifier.isPublic(method.getModifiers())) {
                String name = method.getName();
                CHECKS.due("README.md shows " + name, shown.contains(name) ? 1 : 0, 1);
            }
        }
    }

    private static void everyTestIsNamed(String readme) {
        for (File file : TESTS.toFile().listFiles()) {
            String name = file.getName().replace(".java", "");
            CHECKS.due("README.md names " + name, readme.contains("`" + name + "`") ? 1 : 0, 1);
        }
    }

    private static void theWayToRunThemIsSaid(List<String> lines) {
        int place = lines.indexOf(RUN.toString());
        boolean isSaid = place > 0 && lines.get(place - 1).equals("```sh");
        CHECKS.due("README.md says how to run the tests", isSaid ? 1 : 0, 1);
        CHECKS.due(RUN + " can be run", Files.isExecutable(RUN) ? 1 : 0, 1);
    }
}
