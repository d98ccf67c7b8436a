import java.io.IOException;
import java.lang.invoke.MethodHandles;
import java.lang.reflect.Field;
import java.lang.reflect.InvocationTargetException;
import java.lang.reflect.Method;
import java.lang.reflect.Modifier;
import java.nio.file.Files;
import java.nio.file.Path;
import java.util.ArrayList;
import java.util.List;
import java.util.Set;
import java.util.TreeMap;
import java.util.TreeSet;
import java.util.regex.Matcher;
import java.util.regex.Pattern;
import java.util.stream.Stream;
import javax.tools.ToolProvider;

/**
 * What README.md says: its examples are made into a class and run, against the program and against the Model, its table
 * of the constants is compared to those of the program, and its tables of the tests to the tests that there are.
 */
final class ReadmeTest {
    private static final Path README = Path.of("README.md");
    private static final Path TESTS = Path.of("src/test/java");
    /** A call and what it answers, and after a colon or a comma what is so then. */
    private static final Pattern EXAMPLE = Pattern.compile("(rows\\.(\\w+)\\(.*\\)); +// answers (-?\\w+)([:,].*)?");
    private static final Pattern REGISTER = Pattern.compile("the register (\\d) is ([\\d,]*\\d)");
    private static final Pattern PAD = Pattern.compile("the pad is '([^']*)'");
    private static final Pattern CONSTANT = Pattern.compile("(?m)^\\| `([A-Z_]+)` \\| (-?\\d+) \\|");
    private static final Pattern TEST = Pattern.compile("`(\\w+Test)`");

    private final StringBuilder methods = new StringBuilder();
    private final StringBuilder calls = new StringBuilder();
    private final Set<String> called = new TreeSet<>();

    public static void main(String[] args) throws IOException, ReflectiveOperationException {
        String text = Files.readString(README);
        constants(text);
        tests(text);
        ReadmeTest test = new ReadmeTest();
        test.read(text);
        test.eachMethodHasAnExample();
        test.run("Counted");
        test.run("Model");
        Checks.end();
    }

    private static void constants(String text) throws IllegalAccessException {
        TreeMap<String, Integer> due = new TreeMap<>();
        for (Field field : TurnedRows.class.getFields()) {
            due.put(field.getName(), field.getInt(null));
        }
        TreeMap<String, Integer> told = new TreeMap<>();
        Matcher row = CONSTANT.matcher(text);
        while (row.find()) {
            told.put(row.group(1), Integer.valueOf(row.group(2)));
        }
        Checks.dueText("the constants that README.md tells", told.toString(), due.toString());
    }

    private static void tests(String text) throws IOException {
        TreeSet<String> due = new TreeSet<>();
        try (Stream<Path> files = Files.list(TESTS)) {
            files.map(file -> file.getFileName().toString()).filter(name -> name.endsWith("Test.java"))
                    .forEach(name -> due.add(name.replace(".java", "")));
        }
        TreeSet<String> told = new TreeSet<>();
        Matcher name = TEST.matcher(text);
        while (name.find()) {
            told.add(name.group(1));
        }
        Checks.dueText("the tests that README.md tells", told.toString(), due.toString());
    }

    // ---- the examples

    private void read(String text) {
        Matcher block = Pattern.compile("(?s)```java\n(.*?)```").matcher(text);
        while (block.find()) {
            if (block.group(1).startsWith("static ")) {
                methods.append(block.group(1));
            } else {
                block.group(1).lines().forEach(this::readLine);
            }
        }
    }

    private void readLine(String line) {
        Matcher example = EXAMPLE.matcher(line);
        if (example.matches()) {
            called.add(example.group(2));
            addExample(example.group(1), example.group(3), example.group(4) == null ? "" : example.group(4));
        } else if (!line.isEmpty() && !line.equals("TurnedRows rows = new TurnedRows();")) {
            Checks.dueText("a line among the examples of README.md", line, "a call with its answer");
        }
    }

    private void addExample(String call, String answer, String then) {
        String name = call.replace("\"", "'");
        String due = Character.isLetter(answer.charAt(0)) ? "Checks." + answer : answer;
        add("due", name, call + ", " + due);
        Matcher register = REGISTER.matcher(then);
        while (register.find()) {
            add("rowIs", name, "rows, " + register.group(1) + ", " + register.group(2));
        }
        Matcher pad = PAD.matcher(then);
        while (pad.find()) {
            add("padIs", name, "rows, \"" + pad.group(1) + "\"");
        }
    }

    /** A line of the class that is made: a check, the call that it is about, and what is due. */
    private void add(String check, String call, String due) {
        calls.append(check.equals("due") ? "Checks." : "ReadmeTest.").append(check)
                .append("(\"README.md: ").append(call).append("\", ").append(due).append(");\n");
    }

    static void rowIs(String call, Counted rows, int register, int... row) {
        Checks.dueRow(call, rows, register, row);
    }

    static void rowIs(String call, Model rows, int register, int... row) {
        int[] numbers = new int[rows.of(register, 0)];
        for (int place = 0; place < numbers.length; place++) {
            numbers[place] = rows.number(register, place);
        }
        Checks.dueText(call + ": the row of " + register, Checks.join(numbers), Checks.join(row));
    }

    static void padIs(String call, Counted rows, String text) {
        Checks.due(call + ": the length of the pad", rows.count(1), text.length());
    }

    static void padIs(String call, Model rows, String text) {
        Checks.dueText(call + ": the pad", rows.pad(), text);
    }

    private void eachMethodHasAnExample() {
        TreeSet<String> due = new TreeSet<>();
        for (Method method : TurnedRows.class.getDeclaredMethods()) {
            if (Modifier.isPublic(method.getModifiers())) {
                due.add(method.getName());
            }
        }
        Checks.dueText("the methods that have an example in README.md", called.toString(), due.toString());
    }

    /** Makes the examples a class of this package, so that it can use what the tests share, and runs it. */
    private void run(String kind) throws IOException, ReflectiveOperationException {
        String name = "ReadmeExamplesOf" + kind;
        String source = "final class " + name + " {\n" + methods
                + "static void run() {\n" + kind + " rows = new " + kind + "();\n" + calls + "}\n}\n";
        Path folder = Files.createTempDirectory("readme");
        List<Path> files = new ArrayList<>(List.of(folder.resolve(name + ".java"), folder.resolve(name + ".class"), folder));
        Files.writeString(files.get(0), source);
        int code = ToolProvider.getSystemJavaCompiler().run(null, null, null, "-proc:none", "-encoding", "UTF-8",
                "-cp", System.getProperty("java.class.path"), "-d", folder.toString(), files.get(0).toString());
        Checks.due("compiling the examples of README.md", code, 0);
        if (code == 0) {
            start(Files.readAllBytes(files.get(1)));
        }
        for (Path file : files) {
            Files.deleteIfExists(file);
        }
    }

    private static void start(byte[] made) throws ReflectiveOperationException {
        Method run = MethodHandles.lookup().defineClass(made).getDeclaredMethod("run");
        run.setAccessible(true);
        try {
            run.invoke(null);
        } catch (InvocationTargetException e) {
            Checks.dueText("the examples of README.md", "" + e.getCause(), "run to their end");
        }
    }
}
