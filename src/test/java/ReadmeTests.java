import java.lang.reflect.InvocationTargetException;
import java.lang.reflect.Method;
import java.lang.reflect.Modifier;
import java.nio.file.Files;
import java.nio.file.Path;
import java.util.List;
import java.util.regex.Matcher;
import java.util.regex.Pattern;
import java.util.stream.Collectors;
import javax.tools.JavaCompiler;
import javax.tools.ToolProvider;

/** README.md names every call and every test, and its example and its orders answer what it says. */
public final class ReadmeTests extends OfficeTest {
    private static final Path PAGE = Path.of("README.md");
    private static final Path TESTS = Path.of("src", "test", "java");
    private static final Pattern ANSWER = Pattern.compile("\\s*(?:int (\\w+) = )?(.*);\\s*// = ([^ ,;]+).*");
    private static final Pattern THROWN = Pattern.compile("\\s*(.*);\\s*// throws (\\w+)");
    private static final Pattern ORDER = Pattern.compile("\\| `(\\w[^`(]*)` \\| `(\\w+)\\((\\d+)(?:, (\\d+))?\\)` ");
    private static final int ORDERS = 7;

    public static void main(String[] args) throws Exception {
        String page = Files.readString(PAGE);
        checkNames(page);
        checkOrders(page);
        String example = page.split("```java\n")[1].split("```")[0];
        runExample(example);
        Check.end("ReadmeTests");
    }

    private static void checkNames(String page) throws Exception {
        for (Method method : BuskPitches.class.getDeclaredMethods()) {
            String cell = "`" + method.getName() + "`";
            Check.isTrue("README names " + cell, !Modifier.isPublic(method.getModifiers()) || page.contains(cell));
        }
        List<Path> files;
        try (var listed = Files.list(TESTS)) {
            files = listed.collect(Collectors.toList());
        }
        for (Path file : files) {
            String name = file.getFileName().toString().replace(".java", "");
            Check.isTrue("README names " + name, !name.endsWith("Tests") || page.contains("`" + name + "`"));
        }
    }

    /** An order does what the call beside it does. */
    private static void checkOrders(String page) throws Exception {
        Matcher matcher = ORDER.matcher(page);
        int orders = 0;
        while (matcher.find()) {
            orders++;
            BuskPitches byText = forOrders();
            BuskPitches byCall = forOrders();
            Check.same("the order " + matcher.group(1), 1, Offices.read(byText, matcher.group(1)));
            call(byCall, matcher);
            Check.sameText("the order " + matcher.group(1), Observed.of(byCall), Observed.of(byText));
            Check.isTrue(matcher.group(1) + " changes something",
                !Observed.of(forOrders()).equals(Observed.of(byText)));
        }
        Check.same("orders in README", ORDERS, orders);
    }

    /** An office in which each order of the page can be, and makes a difference. */
    private static BuskPitches forOrders() {
        BuskPitches x = Offices.full();
        x.limit(2, 120);
        Offices.play(x, 2, 2);
        x.pass(3);
        x.leave(2);
        Offices.play(x, 7, 3);
        x.pass(2);
        x.join(0);
        x.join(4);
        return x;
    }

    private static void call(BuskPitches x, Matcher order) throws Exception {
        int first = Integer.parseInt(order.group(3));
        if (order.group(4) == null) {
            BuskPitches.class.getMethod(order.group(2), int.class).invoke(x, first);
        } else {
            int second = Integer.parseInt(order.group(4));
            BuskPitches.class.getMethod(order.group(2), int.class, int.class).invoke(x, first, second);
        }
    }

    private static void runExample(String example) throws Exception {
        compile(example);
        int before = Check.count();
        String thrown = "nothing";
        try {
            Class.forName("ReadmeExample").getDeclaredMethod("run").invoke(null);
        } catch (InvocationTargetException e) {
            thrown = e.getCause().toString();
        }
        Check.sameText("thrown out of the example", "nothing", thrown);
        int answers = example.split("// (=|throws) ", -1).length - 1;
        Check.same("answers checked", answers, Check.count() - before - 1);
    }

    /** The example becomes a class beside those of the tests, as it calls them. */
    private static void compile(String example) throws Exception {
        StringBuilder code = new StringBuilder("final class ReadmeExample {\n    static void run() {\n");
        for (String line : example.split("\n")) {
            code.append(withCheck(line)).append('\n');
        }
        code.append("    }\n}\n");
        Path classes = Path.of(ReadmeTests.class.getProtectionDomain().getCodeSource().getLocation().toURI());
        Path source = classes.resolve("ReadmeExample.java");
        Files.writeString(source, code);
        JavaCompiler compiler = ToolProvider.getSystemJavaCompiler();
        String[] options = {"-d", classes.toString(), "-cp", classes.toString(), source.toString()};
        Check.same("compiling the example", 0, compiler.run(null, null, null, options));
    }

    /** The line with a check of the answer that its comment tells. */
    private static String withCheck(String line) {
        Matcher thrown = THROWN.matcher(line);
        if (thrown.matches()) {
            String call = thrown.group(1);
            return "Check.thrown(\"README: " + call + "\", " + thrown.group(2) + ".class, () -> " + call + ");";
        }
        Matcher answer = ANSWER.matcher(line);
        if (!answer.matches()) {
            return line;
        }
        String call = answer.group(2);
        String name = answer.group(1);
        String kept = name == null ? "" : "int " + name + " = " + call + ";\n";
        String got = name == null ? call : name;
        return kept + "Check.sameText(\"README: " + call + "\", \"" + answer.group(3) + "\", String.valueOf(" + got + "));";
    }
}
