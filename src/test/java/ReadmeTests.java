import java.io.IOException;
import java.lang.reflect.InvocationTargetException;
import java.net.URL;
import java.net.URLClassLoader;
import java.nio.file.Files;
import java.nio.file.Path;
import java.util.List;
import java.util.TreeSet;
import java.util.regex.Matcher;
import java.util.regex.Pattern;
import java.util.stream.Collectors;
import java.util.stream.Stream;
import javax.tools.JavaCompiler;
import javax.tools.ToolProvider;

/** README.md: its examples are compiled and run as one program; its tables are compared with what they list. */
public final class ReadmeTests {
    private static final String[] TELLING =
        {"lay", "at", "mean", "drum", "later", "ends", "passes", "least", "soonest", "test"};
    private static final Pattern ANSWERED = Pattern.compile("^(x\\.\\w+\\(.*\\)); +// (-?\\d+)(: .*)?$");
    private static int answers = 0;

    public static void main(String[] args) throws Exception {
        Path root = Path.of(args.length > 0 ? args[0] : ".");
        String page = Files.readString(root.resolve("README.md"));
        String program = program(page);
        examples(program);
        everyAnswerIsTold(program);
        constants(page);
        tests(page, root.resolve("src/test/java"));
        asked(page);
        Check.end("ReadmeTests");
    }

    /** For the program that is made of the examples: it can reach public members alone. */
    public static void due(String call, long got, long want) {
        answers++;
        Check.due("README.md: " + call, got, want);
    }

    private static String program(String page) {
        StringBuilder all = new StringBuilder();
        Matcher block = Pattern.compile("(?s)```java\n(.*?)```").matcher(page);
        while (block.find()) {
            all.append(block.group(1));
        }
        return all.toString();
    }

    private static void examples(String program) throws IOException, ReflectiveOperationException {
        StringBuilder code = new StringBuilder("public final class ReadmeProgram {\npublic static void run() {\n");
        int due = 0;
        for (String line : program.split("\n")) {
            Matcher answered = ANSWERED.matcher(line);
            if (answered.matches()) {
                due++;
                String call = answered.group(1);
                code.append("ReadmeTests.due(\"" + call + "\", " + call + ", " + answered.group(2) + "L);\n");
            } else {
                code.append(line).append('\n');
            }
        }
        Path work = Files.createTempDirectory("readme");
        try {
            run(work, code.append("}\n}\n").toString());
        } finally {
            Files.deleteIfExists(work.resolve("ReadmeProgram.class"));
            Files.deleteIfExists(work.resolve("ReadmeProgram.java"));
            Files.deleteIfExists(work);
        }
        Check.due("answers in README.md", answers, due);
        Check.holds("there are examples", due > 0);
    }

    private static void run(Path work, String code) throws IOException, ReflectiveOperationException {
        Path file = work.resolve("ReadmeProgram.java");
        Files.writeString(file, code);
        JavaCompiler compiler = ToolProvider.getSystemJavaCompiler();
        int exit = compiler.run(null, null, null, "-cp", System.getProperty("java.class.path"), "-d", work.toString(), file.toString());
        Check.due("compiling the examples", exit, 0);
        if (exit == 0) {
            try (URLClassLoader loader = new URLClassLoader(new URL[] {work.toUri().toURL()})) {
                loader.loadClass("ReadmeProgram").getMethod("run").invoke(null);
            } catch (InvocationTargetException thrown) {
                Check.holds("the examples throw nothing, but " + thrown.getCause(), false);
            }
        }
    }

    /** A call whose answer is not told would not be compared. */
    private static void everyAnswerIsTold(String program) {
        for (String line : program.split("\n")) {
            Check.holds("its answer stands behind: " + line, !line.startsWith("x.") || ANSWERED.matcher(line).matches());
        }
    }

    private static void constants(String page) throws ReflectiveOperationException {
        for (String name : List.of("BAD", "FULL", "STATE", "SPENT", "FINDING")) {
            String row = "| `" + name + "` | " + FlapBoard.class.getField(name).getInt(null) + " |";
            Check.holds("the table of refusals has " + row, page.contains("\n" + row));
        }
        Check.holds("NONE with its number", page.contains("`NONE`\n(" + FlapBoard.NONE + ")"));
        int last = -1;
        // The order of DOC.md, by which the first that fits is answered.
        for (String name : List.of("BAD", "FULL", "STATE", "SPENT", "FINDING")) {
            int place = page.indexOf("\n| `" + name + "` |");
            Check.holds(name + " stands in its order", place > last);
            last = place;
        }
    }

    private static void tests(String page, Path folder) throws IOException {
        TreeSet<String> there;
        try (Stream<Path> files = Files.list(folder)) {
            there = files.map(f -> f.getFileName().toString()).filter(f -> f.endsWith("Tests.java"))
                .map(f -> f.replace(".java", "")).collect(Collectors.toCollection(TreeSet::new));
        }
        Check.alike("tests in the table", firstCells(page, "\\w+Tests"), there);
    }

    private static void asked(String page) {
        Check.alike("calls that asked() tells of", firstCells(page, "`[a-z]+`"),
            new TreeSet<>(Stream.of(TELLING).map(name -> "`" + name + "`").toList()));
        for (String call : List.of("asked", "upper", "lower", "finding", "findings")) {
            Check.holds(call + "() is told of", Pattern.compile("`" + call + "\\(f?\\)`").matcher(page).find());
        }
    }

    private static TreeSet<String> firstCells(String page, String form) {
        TreeSet<String> cells = new TreeSet<>();
        Matcher row = Pattern.compile("(?m)^\\| (" + form + ") \\|").matcher(page);
        while (row.find()) {
            cells.add(row.group(1));
        }
        return cells;
    }
}
