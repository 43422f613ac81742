import java.io.IOException;
import java.net.URL;
import java.net.URLClassLoader;
import java.nio.file.Files;
import java.nio.file.Path;
import java.util.ArrayList;
import java.util.Comparator;
import java.util.List;
import java.util.Set;
import java.util.TreeSet;
import java.util.function.Consumer;
import java.util.regex.Matcher;
import java.util.regex.Pattern;
import java.util.stream.Stream;
import javax.tools.JavaCompiler;
import javax.tools.ToolProvider;

/** That what README.md says is so. Is run from the root of the project. */
public final class ReadmeTest {
    private static final Path README = Path.of("README.md");
    private static final Path DOCUMENT = Path.of("../shared/DOC.md");
    private static final Pattern ANSWERS = Pattern.compile("(?:int (\\w+) = )?(m\\.\\w+\\(.*?\\)); *// answers (-?[\\w.]*\\w)(: .*)?");
    private static final List<String> BUILDING = List.of("leaf", "one", "two", "three");
    private static final Check check = new Check();

    private static String readme;
    private static String document;
    private static Path directory;

    public static void main(String[] args) throws Exception {
        readme = Files.readString(README);
        document = Files.readString(DOCUMENT).replaceAll("\\s+", " ");
        directory = Files.createTempDirectory("readme");
        try {
            examples();
            terms();
            questions();
            namesOfTests();
            oneTest();
        } finally {
            delete();
        }
        check.end();
    }

    private static void delete() throws IOException {
        try (Stream<Path> files = Files.walk(directory)) {
            for (Path file : files.sorted(Comparator.reverseOrder()).toList()) {
                Files.delete(file);
            }
        }
    }

    private static List<String> blocks(String language) {
        List<String> blocks = new ArrayList<>();
        Matcher block = Pattern.compile("```" + language + "\n(.*?)```", Pattern.DOTALL).matcher(readme);
        while (block.find()) {
            blocks.add(block.group(1));
        }
        return blocks;
    }

    private static void examples() throws Exception {
        List<String> examples = blocks("java");
        check.due("examples", examples.size(), 3);
        for (int i = 0; i < examples.size(); i++) {
            example("Example" + i, examples.get(i));
        }
    }

    /** Compiles the example as it stands, but that each answer is taken down beside the one that is said. */
    private static void example(String name, String text) throws Exception {
        StringBuilder body = new StringBuilder();
        int said = 0;
        for (String line : text.split("\n")) {
            Matcher answers = ANSWERS.matcher(line);
            if (answers.matches()) {
                String variable = answers.group(1);
                String call = answers.group(2);
                body.append(variable == null ? "" : "int " + variable + " = " + call + ";\n");
                body.append("taken.accept(new Object[] {\"").append(call).append("\", ").append(variable == null ? call : variable)
                    .append(", ").append(answers.group(3)).append("});\n");
                said++;
            } else {
                check.holds("what the line answers is understood: " + line, !line.contains("answers"));
                body.append(line).append("\n");
            }
        }
        List<Object[]> answers = answersOf(name, body.toString());
        for (Object[] answer : answers) {
            check.due(name + " of README.md: " + answer[0], (Integer) answer[1], (Integer) answer[2]);
        }
        check.due("answers of " + name, answers.size(), said);
        check.holds(name + " says what its calls answer", said >= 6);
    }

    private static List<Object[]> answersOf(String name, String body) throws Exception {
        Path source = directory.resolve(name + ".java");
        Files.writeString(source, "public final class " + name + " implements java.util.function.Consumer<java.util.function.Consumer<Object[]>> {\n"
            + "public void accept(java.util.function.Consumer<Object[]> taken) {\n" + body + "}\n}\n");
        JavaCompiler compiler = ToolProvider.getSystemJavaCompiler();
        int failed = compiler.run(null, null, null, "-cp", System.getProperty("java.class.path"), "-d", directory.toString(), source.toString());
        check.due("errors of javac in " + name, failed, 0);
        List<Object[]> answers = new ArrayList<>();
        if (failed == 0) {
            try (URLClassLoader loader = new URLClassLoader(new URL[] {directory.toUri().toURL()})) {
                @SuppressWarnings("unchecked")
                Consumer<Consumer<Object[]>> example = (Consumer<Consumer<Object[]>>) loader.loadClass(name).getConstructor().newInstance();
                example.accept(answers::add);
            }
        }
        return answers;
    }

    private static void terms() {
        Matcher row = Pattern.compile("\\| `(\\w+)` \\| (\\d+) \\| (.+) \\| (.+) \\|").matcher(readme);
        Set<String> kinds = new TreeSet<>();
        while (row.find()) {
            String call = row.group(1);
            int kind = Integer.parseInt(row.group(2));
            kinds.add(call + " " + kind);
            check.holds("the document has for " + call + " " + row.group(2) + ": " + row.group(3),
                promise(call).matches(".*\\b" + kind + ": " + Pattern.quote(row.group(3)) + "( \\(|[,.]).*"));
            for (int k = -200; k <= 200; k++) {
                range(call, kind, row.group(4), k);
            }
            range(call, kind, row.group(4), Integer.MIN_VALUE);
            range(call, kind, row.group(4), Integer.MAX_VALUE);
        }
        Set<String> due = new TreeSet<>();
        for (String call : BUILDING) {
            for (int kind = -1; kind <= 20; kind++) {
                for (int k = -1; k <= 6; k++) {
                    if (taken(call, kind, k)) {
                        due.add(call + " " + kind);
                    }
                }
            }
        }
        check.same("the table of terms", kinds.toString(), due.toString());
    }

    private static String promise(String call) {
        Matcher section = Pattern.compile("## Promise \\d+: " + call + " (.*?)## Promise").matcher(document);
        return section.find() ? section.group(1) : "";
    }

    private static void range(String call, int kind, String words, int k) {
        Matcher fromTo = Pattern.compile("(-?\\d+) to (\\d+)").matcher(words);
        Matcher either = Pattern.compile("(\\d) or (\\d)").matcher(words);
        boolean due;
        if (fromTo.matches()) {
            due = k >= Integer.parseInt(fromTo.group(1)) && k <= Integer.parseInt(fromTo.group(2));
        } else if (either.matches()) {
            due = k == Integer.parseInt(either.group(1)) || k == Integer.parseInt(either.group(2));
        } else if (words.equals("a class")) {
            due = k >= 0 && k < 3;
        } else {
            check.same("the range of k", words, "any");
            due = true;
        }
        check.holds(call + "(" + kind + ", " + k + ") is " + (due ? "taken" : "refused"), taken(call, kind, k) == due);
    }

    /** Whether the call is taken where there are three classes and three terms. */
    private static boolean taken(String call, int kind, int k) {
        MessageMachine m = Machines.withClasses(3);
        for (int i = 0; i < 3; i++) {
            m.leaf(0, i);
        }
        switch (call) {
            case "leaf": return m.leaf(kind, k) == 4;
            case "one": return m.one(kind, k) == 3;
            case "two": return m.two(kind, k) == 2;
            default: return m.three(kind, k) == 1;
        }
    }

    private static void questions() {
        Matcher row = Pattern.compile("\\| `(\\w+)\\(\\w?\\)` \\| (.+) \\|").matcher(readme);
        List<String> calls = new ArrayList<>();
        while (row.find()) {
            calls.add(row.group(1));
            check.holds("the document says of " + row.group(1) + ": " + row.group(2), promise(row.group(1)).contains(row.group(2)));
        }
        check.same("the table of questions", calls.toString(), "[run, kind, value, printed, output, turns, deepest, made, reach]");
    }

    private static void namesOfTests() throws IOException {
        Set<String> named = new TreeSet<>();
        Matcher line = Pattern.compile("(?m)^- (`\\w+Test`(?:, `\\w+Test`)*):").matcher(readme);
        while (line.find()) {
            for (String name : line.group(1).split(", ")) {
                named.add(name.replace("`", "") + ".java");
            }
        }
        Set<String> due = new TreeSet<>();
        try (Stream<Path> files = Files.list(Path.of("src/test/java"))) {
            files.map(file -> file.getFileName().toString()).filter(name -> name.endsWith("Test.java")).forEach(due::add);
        }
        check.same("the list of tests", named.toString(), due.toString());
    }

    /** The first commands are those that run this test itself, so that only the others can be run here. */
    private static void oneTest() throws Exception {
        List<String> commands = blocks("sh");
        check.due("commands", commands.size(), 2);
        check.same("all tests", commands.get(0).trim(), ".ci/run");
        check.holds(".ci/run can be run", Files.isExecutable(Path.of(".ci/run")));
        check.holds("one test is not this one", !commands.get(1).contains("ReadmeTest"));
        ProcessBuilder shell = new ProcessBuilder("sh", "-e", "-c", commands.get(1));
        shell.environment().put("TMPDIR", directory.toString());
        Path printed = directory.resolve("printed");
        shell.redirectErrorStream(true).redirectOutput(printed.toFile());
        check.due("exit code of one test", shell.start().waitFor(), 0);
        check.holds("one test tells its answers", Pattern.compile("(?m)^\\d+ answers, 0 not as due$").matcher(Files.readString(printed)).find());
    }
}
