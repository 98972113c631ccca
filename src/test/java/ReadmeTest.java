import java.io.IOException;
import java.lang.reflect.Method;
import java.lang.reflect.Modifier;
import java.net.URL;
import java.net.URLClassLoader;
import java.nio.file.Files;
import java.nio.file.Path;
import java.util.ArrayList;
import java.util.List;
import java.util.Set;
import java.util.TreeSet;
import java.util.regex.Matcher;
import java.util.regex.Pattern;
import java.util.stream.Stream;
import javax.tools.JavaCompiler;
import javax.tools.ToolProvider;

/** What README.md shows of the class's use answers as README.md says, and its tables name what there is. */
public final class ReadmeTest {
    private static final Check CHECK = new Check("ReadmeTest");
    private static final Path README = Path.of("README.md");
    private static final Path MADE = Path.of("build/readme");
    private static final String NAME = "ReadmeUse";
    /** A statement with its answer behind it: a number or the name of a constant, and perhaps words behind a ':'. */
    private static final Pattern SHOWN =
            Pattern.compile("\\s*(?:int (\\w+) = )?(x\\.(\\w+)\\(.*\\));\\s*// (-?\\d+|[A-Z]+)(:.*)?");

    private final List<String> lines;
    private final StringBuilder methods = new StringBuilder();
    private final StringBuilder calls = new StringBuilder();
    private final Set<String> shown = new TreeSet<>();
    private int answers = 0;

    private ReadmeTest(List<String> lines) {
        this.lines = lines;
    }

    public static void main(String[] args) throws ReflectiveOperationException, IOException {
        ReadmeTest test = new ReadmeTest(Files.readAllLines(README));
        test.collect();
        test.runWhatIsShown();
        test.everyCallIsShown();
        test.answersBelowZero();
        test.classesInside();
        test.tests();
        CHECK.end();
    }

    /** Each Java block becomes a method: so each stands by itself. */
    private void collect() {
        boolean isCode = false;
        for (int k = 0; k < lines.size(); k++) {
            String line = lines.get(k);
            if (line.equals("```java")) {
                isCode = true;
                methods.append("    private static void block").append(k).append("() {\n");
                calls.append("        block").append(k).append("();\n");
            } else if (line.startsWith("```") && isCode) {
                isCode = false;
                methods.append("    }\n");
            } else if (isCode) {
                methods.append("        ").append(rewritten(line, k + 1)).append('\n');
            }
        }
        CHECK.holds("a Java block that ends", !isCode && calls.length() > 0);
    }

    private String rewritten(String line, int number) {
        Matcher found = SHOWN.matcher(line);
        if (!found.matches()) {
            CHECK.holds("line " + number + ": an answer that can be read in '" + line + "'", !line.contains("//"));
            return line;
        }
        answers++;
        shown.add(found.group(3));
        String want = found.group(4).matches("[A-Z]+") ? "CleanNets." + found.group(4) : found.group(4);
        String name = found.group(1);
        String ask = found.group(2);
        return name == null
                ? "SEEN.add(new int[] {" + number + ", " + ask + ", " + want + "});"
                : "int " + name + " = " + ask + "; SEEN.add(new int[] {" + number + ", " + name + ", " + want + "});";
    }

    private void runWhatIsShown() throws ReflectiveOperationException, IOException {
        Files.createDirectories(MADE);
        Path source = MADE.resolve(NAME + ".java");
        Files.writeString(source, "public final class " + NAME + " {\n"
                + "    private static final java.util.List<int[]> SEEN = new java.util.ArrayList<>();\n\n"
                + "    public static java.util.List<int[]> run() {\n" + calls + "        return SEEN;\n    }\n\n"
                + methods + "}\n");
        JavaCompiler compiler = ToolProvider.getSystemJavaCompiler();
        int failed = compiler.run(null, null, null, "-cp", System.getProperty("java.class.path"), "-d", MADE.toString(),
                source.toString());
        CHECK.due("the compiler", failed, 0);
        if (failed != 0) {
            return;
        }
        for (int[] seen : answersOfTheMade()) {
            CHECK.due("line " + seen[0] + ", '" + lines.get(seen[0] - 1).trim() + "',", seen[1], seen[2]);
        }
    }

    private List<int[]> answersOfTheMade() throws ReflectiveOperationException, IOException {
        List<int[]> rows = new ArrayList<>();
        try (URLClassLoader loader = new URLClassLoader(new URL[] {MADE.toUri().toURL()})) {
            List<?> seen = (List<?>) loader.loadClass(NAME).getMethod("run").invoke(null);
            for (Object row : seen) {
                rows.add((int[]) row);
            }
        }
        CHECK.due("answers that were compared", rows.size(), answers);
        return rows;
    }

    private void everyCallIsShown() {
        for (Method method : CleanNets.class.getDeclaredMethods()) {
            if (Modifier.isPublic(method.getModifiers())) {
                CHECK.holds("an answer of " + method.getName() + " that is shown", shown.contains(method.getName()));
            }
        }
    }

    /** The words of a row's first cell, of each row of the table with this head. */
    private Set<String> firstCells(String head) {
        Set<String> cells = new TreeSet<>();
        int at = lines.indexOf(head);
        CHECK.holds("a table '" + head + "'", at >= 0);
        for (int k = at + 2; at >= 0 && k < lines.size() && lines.get(k).startsWith("|"); k++) {
            cells.add(lines.get(k).split("\\|")[1].replaceAll("[ `]", ""));
        }
        return cells;
    }

    private void answersBelowZero() throws ReflectiveOperationException {
        Set<String> cells = firstCells("| answer | | what it says |");
        CHECK.due("answers in the table", cells.size(), 8);
        for (String cell : cells) {
            int answer = CleanNets.class.getField(cell.replace("CleanNets.", "")).getInt(null);
            CHECK.holds(cell + " is " + answer + " in the table",
                    lines.stream().anyMatch(line -> line.startsWith("| `" + cell + "` | " + answer + " |")));
        }
    }

    private void classesInside() {
        Set<String> inside = new TreeSet<>();
        for (Class<?> c : CleanNets.class.getDeclaredClasses()) {
            inside.add(c.getSimpleName());
        }
        Set<String> told = firstCells("| class inside | what it is for |");
        CHECK.holds("the table of the classes inside " + inside, told.equals(inside));
    }

    private void tests() throws IOException {
        Set<String> tests = new TreeSet<>();
        try (Stream<Path> files = Files.list(Path.of("src/test/java"))) {
            files.map(file -> file.getFileName().toString()).filter(file -> file.endsWith("Test.java"))
                    .forEach(file -> tests.add(file.replace(".java", "")));
        }
        Set<String> told = firstCells("| test | what it looks at |");
        CHECK.holds("the table of the tests " + tests, told.equals(tests));
    }
}
