import java.io.File;
import java.io.StringWriter;
import java.nio.file.Files;
import java.nio.file.Path;
import java.util.ArrayList;
import java.util.Comparator;
import java.util.List;
import java.util.TreeSet;
import java.util.concurrent.ExecutorService;
import java.util.concurrent.Executors;
import java.util.concurrent.Future;
import java.util.concurrent.TimeUnit;
import java.util.regex.Matcher;
import java.util.regex.Pattern;
import java.util.stream.Stream;
import javax.tools.JavaCompiler;
import javax.tools.StandardJavaFileManager;
import javax.tools.ToolProvider;

/**
 * Shows that the test of each sentence fails if the sentence is broken: breaks the class in each way that BROKEN.txt tells,
 * and runs SentencesTest on it. It is run by hand, from the project's folder: java src/test/broken/Broken.java
 */
public final class Broken {
    private static final Path CLASS = Path.of("src/main/java/GrowingBook.java");
    private static final Path TESTS = Path.of("src/test/java");
    private static final Path WAYS = Path.of("src/test/broken/BROKEN.txt");
    private static final int SECONDS = 60;

    /** A way to break the class: the sentence (its heading and its first words), the old text and the new one. */
    private record Way(String sentence, String old, String with) { }

    public static void main(String[] arguments) throws Exception {
        Path work = Files.createTempDirectory("broken");
        TreeSet<String> unproved = new TreeSet<>(sentences());
        List<Way> ways = ways();
        String source = Files.readString(CLASS);
        ExecutorService workers = Executors.newFixedThreadPool(Runtime.getRuntime().availableProcessors());
        List<Future<String>> answers = new ArrayList<>();
        for (int i = 0; i < ways.size(); i++) {
            Way way = ways.get(i);
            Path folder = work.resolve("way" + i);
            answers.add(workers.submit(() -> tryOut(way, source, folder)));
        }
        int wrong = 0;
        for (int i = 0; i < ways.size(); i++) {
            String answer = answers.get(i).get();
            String sentence = ways.get(i).sentence();
            if (answer.isEmpty()) {
                unproved.removeIf(proved -> proved.startsWith(sentence));
            } else {
                wrong++;
                System.out.println(ways.get(i) + ": " + answer);
            }
        }
        workers.shutdown();
        unproved.forEach(sentence -> System.out.println("no way breaks [" + sentence + "]"));
        System.out.println(ways.size() + " ways, " + wrong + " not seen, " + unproved.size() + " sentences that none breaks");
        remove(work);
        System.exit(wrong + unproved.size() == 0 ? 0 : 1);
    }

    /** An empty text if the sentence's own test fails when the class is broken so. */
    private static String tryOut(Way way, String source, Path folder) throws Exception {
        Matcher matcher = Pattern.compile(Pattern.quote(way.old()).replace(" ", "\\E\\s+\\Q")).matcher(source);
        if (!matcher.find()) {
            return "the old text is not there";
        }
        String broken = source.substring(0, matcher.start()) + way.with() + source.substring(matcher.end());
        if (matcher.find()) {
            return "the old text is there more than once";
        }
        Files.createDirectories(folder);
        Files.writeString(folder.resolve("GrowingBook.java"), broken);
        String errors = compile(folder);
        if (!errors.isEmpty()) {
            return errors;
        }
        Path output = folder.resolve("output");
        Process process = new ProcessBuilder("java", "-XX:TieredStopAtLevel=1", "-cp", folder.toString(), "SentencesTest")
            .redirectErrorStream(true).redirectOutput(output.toFile()).start();
        if (!process.waitFor(SECONDS, TimeUnit.SECONDS)) {
            process.destroyForcibly();
            return "it did not end";
        }
        String text = Files.readString(output);
        boolean seen = text.lines().anyMatch(line -> line.startsWith("[" + way.sentence()));
        boolean threw = text.contains("Exception in thread");
        return threw ? "it threw" : seen ? "" : "its own test did not fail\n" + text;
    }

    private static String compile(Path folder) throws Exception {
        JavaCompiler compiler = ToolProvider.getSystemJavaCompiler();
        List<File> files = new ArrayList<>(List.of(folder.resolve("GrowingBook.java").toFile()));
        try (Stream<Path> tests = Files.list(TESTS)) {
            tests.filter(test -> test.toString().matches(".*(Sentences|SentencesTest|Due|Books)\\.java")).map(Path::toFile)
                .forEach(files::add);
        }
        StringWriter errors = new StringWriter();
        try (StandardJavaFileManager manager = compiler.getStandardFileManager(null, null, null)) {
            boolean right = compiler.getTask(errors, manager, null, List.of("-d", folder.toString()), null,
                manager.getJavaFileObjectsFromFiles(files)).call();
            return right ? "" : "it does not compile: " + errors;
        }
    }

    private static List<Way> ways() throws Exception {
        List<Way> ways = new ArrayList<>();
        for (String block : Files.readString(WAYS).trim().split("\n\n+")) {
            if (!block.startsWith("#")) {
                String[] lines = block.split("\n");
                ways.add(new Way(lines[0].substring(1, lines[0].length() - 1), lines[1], lines[2]));
            }
        }
        return ways;
    }

    /** All sentences that the tests name, as "heading: words". */
    private static List<String> sentences() throws Exception {
        List<String> found = new ArrayList<>();
        Pattern sentence = Pattern.compile("due\\.sentence\\(\\s*\"([^\"]*)\",\\s*((?:\"(?:[^\"\\\\]|\\\\.)*\"[\\s+]*)+)\\)");
        try (Stream<Path> tests = Files.list(TESTS)) {
            for (Path test : tests.filter(path -> path.toString().endsWith("Sentences.java")).toList()) {
                Matcher matcher = sentence.matcher(Files.readString(test));
                while (matcher.find()) {
                    String words = matcher.group(2).trim().replaceAll("\"[\\s+]+\"", "").replaceAll("^\"|\"$", "");
                    found.add(matcher.group(1) + ": " + words.replace("\\\"", "\""));
                }
            }
        }
        return found;
    }

    private static void remove(Path folder) throws Exception {
        try (Stream<Path> all = Files.walk(folder)) {
            all.sorted(Comparator.reverseOrder()).forEach(path -> path.toFile().delete());
        }
    }
}
