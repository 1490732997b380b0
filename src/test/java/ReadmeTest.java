import java.io.IOException;
import java.lang.reflect.Method;
import java.lang.reflect.Modifier;
import java.nio.charset.StandardCharsets;
import java.nio.file.Files;
import java.nio.file.Path;
import java.util.ArrayList;
import java.util.Comparator;
import java.util.List;
import java.util.TreeMap;
import java.util.TreeSet;
import java.util.regex.Matcher;
import java.util.regex.Pattern;
import java.util.stream.Stream;

/**
 * Whether README.md is right: its program prints, and each call of its examples answers, what README.md says; its tables tell
 * every call with the document's errors, and every test. It is run from the project's folder.
 */
public final class ReadmeTest {
    private static final Path CLASS = Path.of("src/main/java/GrowingBook.java");
    private static final String ERROR = "NO_SUCH|BAD_VALUE|BAD_TEXT|TOO_MANY|NOT_POSSIBLE";
    /** A call in an example, and behind it what it answers: a number or a constant's name. */
    private static final Pattern EXAMPLE = Pattern.compile("(book\\.(\\w+)\\(.*\\));\\s*// (-?\\d+|[A-Z_]+)(:.*)?");

    private final Due due = new Due();
    private final String readme = text(Path.of("README.md"));
    private final TreeSet<String> calledMethods = new TreeSet<>();
    private final TreeSet<String> answeredConstants = new TreeSet<>();

    public static void main(String[] arguments) throws Exception {
        ReadmeTest test = new ReadmeTest();
        Path folder = Files.createTempDirectory("readme");
        try {
            test.programPrints(folder);
            test.examplesAnswer(folder);
            test.examplesCallEachMethod();
            test.tableTellsEachCall();
            test.tableTellsEachAnswer();
            test.tablesTellEachTest();
        } finally {
            remove(folder);
        }
        test.due.end("ReadmeTest");
    }

    private static String text(Path file) {
        try {
            return Files.readString(file, StandardCharsets.UTF_8);
        } catch (IOException error) {
            throw new IllegalStateException(error);
        }
    }

    private static List<String> blocks(String page, String language) {
        List<String> found = new ArrayList<>();
        Matcher matcher = Pattern.compile("(?s)```" + language + "\n(.*?)```").matcher(page);
        while (matcher.find()) {
            found.add(matcher.group(1));
        }
        return found;
    }

    private static String run(Path folder, String... command) throws Exception {
        Process process = new ProcessBuilder(command).directory(folder.toFile()).redirectErrorStream(true).start();
        String output = new String(process.getInputStream().readAllBytes(), StandardCharsets.UTF_8);
        return process.waitFor() == 0 ? output : output + "It ended with an error.\n";
    }

    /** The page's program, compiled and run by the page's own commands. */
    private void programPrints(Path folder) throws Exception {
        Files.createDirectories(folder.resolve(CLASS).getParent());
        Files.copy(CLASS, folder.resolve(CLASS));
        Files.writeString(folder.resolve("Example.java"), blocks(readme, "java").get(0));
        StringBuilder output = new StringBuilder();
        for (String command : blocks(readme, "sh").get(0).split("\n")) {
            output.append(run(folder, "bash", "-c", command));
        }
        due.same("what the program prints", output.toString(), blocks(readme, "text").get(0));
    }

    /** Makes one program of all examples, which tells each answer, and runs it. */
    private void examplesAnswer(Path folder) throws Exception {
        StringBuilder program = new StringBuilder("public final class Examples {\n"
            + "static void due(String call, long got, long want) { System.out.println(call + \"\\t\" + got + \"\\t\" + want); }\n"
            + "public static void main(String[] arguments) {\n");
        int calls = 0;
        List<String> examples = blocks(readme, "java");
        for (String example : examples.subList(1, examples.size())) {
            program.append("{\n");
            for (String line : example.split("\n")) {
                Matcher matcher = EXAMPLE.matcher(line);
                boolean answers = matcher.matches();
                program.append(answers ? asked(matcher) : line).append('\n');
                calls += answers ? 1 : 0;
                // Only a loop may call without telling the answers.
                boolean untold = !answers && line.contains("book.") && !line.startsWith("for (");
                due.same("the line with no answer", untold ? line : "none", "none");
            }
            program.append("}\n");
        }
        Path file = folder.resolve("Examples.java");
        Files.writeString(file, program.append("}\n}\n").toString());
        String java = Path.of(System.getProperty("java.home"), "bin", "java").toString();
        String classes = Path.of(System.getProperty("java.class.path")).toAbsolutePath().toString();
        String output = run(folder, java, "-cp", classes, file.toString());
        String[] lines = output.split("\n");
        for (String line : lines) {
            String[] parts = line.split("\t");
            if (parts.length == 3) {
                due.is("README.md: " + parts[0], Long.parseLong(parts[1]), Long.parseLong(parts[2]));
            } else {
                due.same("the examples' output", line, "a call, its answer and the answer that is due");
            }
        }
        due.is("calls of the examples", lines.length, calls);
        due.is("there are examples", calls > 50 ? 1 : 0, 1);
    }

    private String asked(Matcher example) {
        String call = example.group(1);
        String answer = example.group(3);
        boolean constant = Character.isLetter(answer.charAt(0));
        calledMethods.add(example.group(2));
        answeredConstants.add(constant ? answer : "a number");
        return "due(\"" + call.replace("\"", "\\\"") + "\", " + call + ", " + (constant ? "GrowingBook." : "") + answer + ");";
    }

    private static TreeSet<String> methods() {
        TreeSet<String> names = new TreeSet<>();
        for (Method method : GrowingBook.class.getDeclaredMethods()) {
            if (Modifier.isPublic(method.getModifiers())) {
                names.add(method.getName());
            }
        }
        return names;
    }

    private void examplesCallEachMethod() {
        due.same("the methods that the examples call", calledMethods.toString(), methods().toString());
        due.same("the answers of the examples", answeredConstants.toString(),
            "[BAD_TEXT, BAD_VALUE, NONE, NOT_POSSIBLE, NO_SUCH, TOO_MANY, a number]");
    }

    /** The names of errors in a text, each one once, in their order. */
    private static String errors(String text) {
        List<String> found = new ArrayList<>();
        Matcher matcher = Pattern.compile("\\b(" + ERROR + ")\\b").matcher(text);
        while (matcher.find()) {
            if (!found.contains(matcher.group())) {
                found.add(matcher.group());
            }
        }
        return found.toString();
    }

    private static TreeMap<String, String> errorsOfDocument() {
        TreeMap<String, String> found = new TreeMap<>();
        for (String part : text(Path.of("../shared/DOC.md")).split("(?m)^## ")) {
            Matcher heading = Pattern.compile("Promise \\d+: (\\w+)\n").matcher(part);
            if (heading.lookingAt()) {
                found.put(heading.group(1), errors(part));
            }
        }
        return found;
    }

    private void tableTellsEachCall() throws Exception {
        TreeMap<String, String> told = new TreeMap<>();
        Matcher row = Pattern.compile("(?m)^\\| `(\\w+)\\(([^)]*)\\)` \\| .* \\| (.*) \\|$").matcher(readme);
        while (row.find()) {
            told.put(row.group(1), errors(row.group(3)));
            due.same("parameters of " + row.group(1), row.group(2), parameters(row.group(1)));
            due.is("errors of " + row.group(1) + " are told, or none", row.group(3).matches("none|`.*`") ? 1 : 0, 1);
        }
        due.same("the calls of the table and their errors", told.toString(), errorsOfDocument().toString());
        due.same("the calls of the table", told.keySet().toString(), methods().toString());
    }

    /** The names of a method's parameters as the document's face tells them. */
    private static String parameters(String method) {
        Matcher matcher = Pattern.compile("public int " + method + "\\((.*)\\);").matcher(text(Path.of("../shared/DOC.md")));
        return matcher.find() ? matcher.group(1).replaceAll("\\b(int|long) ", "") : "no such method";
    }

    private void tableTellsEachAnswer() throws Exception {
        TreeSet<String> told = new TreeSet<>();
        Matcher row = Pattern.compile("(?m)^\\| `([A-Z_]+)` \\((-\\d)\\) \\|").matcher(readme);
        while (row.find()) {
            told.add(row.group(1));
            due.is(row.group(1) + " in README.md", Integer.parseInt(row.group(2)), GrowingBook.class.getField(row.group(1)).getInt(null));
        }
        due.same("the answers of the table", told.toString(), "[BAD_TEXT, BAD_VALUE, NONE, NOT_POSSIBLE, NO_SUCH, TOO_MANY]");
    }

    /** Each test has a row, each row is a test; what else is there is named. */
    private void tablesTellEachTest() throws Exception {
        TreeSet<String> rows = new TreeSet<>();
        Matcher row = Pattern.compile("(?m)^\\| `(\\w+(Test|Sentences))` \\|").matcher(readme);
        while (row.find()) {
            rows.add(row.group(1));
        }
        TreeSet<String> tests = new TreeSet<>();
        try (Stream<Path> files = Files.list(Path.of("src/test/java"))) {
            for (Path file : files.toList()) {
                String name = file.getFileName().toString().replace(".java", "");
                if (name.matches(".*(Test|Sentences)")) {
                    tests.add(name);
                }
                due.is(name + " is named in README.md", readme.contains("`" + name + "`") ? 1 : 0, 1);
            }
        }
        due.same("the tests that README.md tells", rows.toString(), tests.toString());
    }

    private static void remove(Path folder) throws IOException {
        try (Stream<Path> all = Files.walk(folder)) {
            all.sorted(Comparator.reverseOrder()).forEach(path -> path.toFile().delete());
        }
    }
}
