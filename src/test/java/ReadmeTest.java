import java.io.IOException;
import java.net.URL;
import java.net.URLClassLoader;
import java.nio.charset.StandardCharsets;
import java.nio.file.Files;
import java.nio.file.Path;
import java.util.ArrayList;
import java.util.Arrays;
import java.util.List;
import java.util.Map;
import java.util.Set;
import java.util.TreeMap;
import java.util.TreeSet;
import java.util.regex.Matcher;
import java.util.regex.Pattern;
import java.util.stream.Stream;
import javax.tools.JavaCompiler;
import javax.tools.ToolProvider;

/** What README.md shows: its examples are compiled and run as they stand there, one behind the other. */
public final class ReadmeTest {
    /** A call with its answer: "x.can(0);   // 3: suitors 0 and 1". */
    private static final Pattern ANSWERED = Pattern.compile("(x\\.(\\w+)\\(.*\\)); +// (-?\\d+)(?![\\w.])(.*)");
    /** The lines that make the object and tell its text; all others have to be calls with their answers. */
    private static final Pattern MAKING = Pattern.compile(
        "LoveGlass x = new LoveGlass\\(\\);|for \\(char c : \"(\\w+)\"\\.toCharArray\\(\\)\\) \\{|    x\\.write\\(c\\);|\\}");
    private static final Pattern ROW = Pattern.compile("(?m)^\\| `(\\w+)\\(([^)]*)\\)` \\| (.*) \\| (.*)\\|$");
    private static final String[] REFUSALS = {"UNKNOWN", "BAD", "LATE", "FULL"};
    private static final int MOST_CALLS = 512;
    private static final Due due = new Due();

    private final String page;
    private final StringBuilder program = new StringBuilder();
    private final List<String> calls = new ArrayList<>();
    private final List<Long> answers = new ArrayList<>();
    private final List<String> words = new ArrayList<>();
    private final Set<String> called = new TreeSet<>();
    private int written;

    private ReadmeTest(String page) {
        this.page = page;
    }

    private void readExamples() {
        for (String[] block : Document.javaBlocks(page)) {
            for (String line : block) {
                Matcher answered = ANSWERED.matcher(line);
                Matcher making = MAKING.matcher(line);
                if (answered.matches()) {
                    program.append("all[").append(calls.size()).append("] = ").append(answered.group(1)).append(";\n");
                    calls.add(answered.group(1));
                    called.add(answered.group(2));
                    answers.add(Long.parseLong(answered.group(3)));
                    words.add(answered.group(4));
                } else {
                    due.due("a line with no answer: " + line, making.matches() ? 1 : 0, 1);
                    program.append(line).append('\n');
                    written += making.matches() && making.group(1) != null ? making.group(1).length() : 0;
                }
            }
        }
    }

    private long[] runExamples() throws Exception {
        Path folder = Files.createTempDirectory("readme");
        try {
            Path file = folder.resolve("Examples.java");
            Files.writeString(file, "public final class Examples {\npublic static long[] all() {\nlong[] all = new long["
                + calls.size() + "];\n" + program + "return all;\n}\n}\n", StandardCharsets.US_ASCII);
            JavaCompiler javac = ToolProvider.getSystemJavaCompiler();
            int failed = javac.run(null, null, null, "-cp", System.getProperty("java.class.path"), "-d", folder.toString(),
                file.toString());
            due.due("the examples compile", failed, 0);
            try (URLClassLoader loader = new URLClassLoader(new URL[] {folder.toUri().toURL()})) {
                return (long[]) loader.loadClass("Examples").getMethod("all").invoke(null);
            }
        } finally {
            try (Stream<Path> files = Files.list(folder)) {
                for (Path file : files.toList()) {
                    Files.delete(file);
                }
            }
            Files.delete(folder);
        }
    }

    private void examples() throws Exception {
        due.under("what README.md shows as calls with their answers holds of the class");
        readExamples();
        due.due("as many calls as an object is used for", written + calls.size() <= MOST_CALLS ? 1 : 0, 1);
        long[] seen = runExamples();
        for (int i = 0; i < seen.length; i++) {
            due.due("README.md: " + calls.get(i), seen[i], answers.get(i));
        }
    }

    /** The constants' values are those of the class, and an example that answers one tells its name. */
    private void names() throws Exception {
        due.under("README.md: refusals and NONE");
        Map<Long, String> names = new TreeMap<>();
        for (String name : new String[] {"UNKNOWN", "BAD", "LATE", "FULL", "NONE"}) {
            long value = LoveGlass.class.getField(name).getInt(null);
            names.put(value, name);
            due.due("the table's row of " + name, page.contains("| `" + name + "` | " + value + " |") ? 1 : 0, 1);
        }
        for (int i = 0; i < answers.size(); i++) {
            if (names.containsKey(answers.get(i))) {
                String told = ": " + names.get(answers.get(i));
                due.due("what is told of " + calls.get(i) + words.get(i), words.get(i).startsWith(told) ? 1 : 0, 1);
            }
        }
    }

    /** Each call has a row, with its parameters and refusals as the document has them, and an example. */
    private void tables() throws IOException {
        due.under("README.md: each call has its row and an example");
        Map<String, Matcher> rows = new TreeMap<>();
        Matcher matcher = ROW.matcher(page);
        while (matcher.find()) {
            Matcher row = ROW.matcher(matcher.group());
            due.due("the row's form", row.matches() ? 1 : 0, 1);
            due.due("a row that is there already: " + matcher.group(1), rows.put(matcher.group(1), row) == null ? 1 : 0, 1);
        }
        Set<String> wanted = new TreeSet<>();
        for (Document.Promise promise : Document.promises()) {
            if (promise.title.equals("A new object")) {
                continue;
            }
            wanted.add(promise.title);
            Matcher row = rows.get(promise.title);
            due.due("a row of " + promise.title, row != null ? 1 : 0, 1);
            if (row != null) {
                String parameters = promise.head.replaceAll(".*\\(|\\)", "").replaceAll("\\w+ (\\w+)", "$1");
                due.due("parameters of " + promise.title, row.group(2), parameters);
                due.due("refusals of " + promise.title, Document.wordsIn(row.group(4), REFUSALS).toString(),
                    Document.wordsIn(promise.words, REFUSALS).toString());
                due.due("NONE of " + promise.title, Document.wordsIn(row.group(3), "NONE").toString(),
                    Document.wordsIn(promise.words, "NONE").toString());
            }
        }
        due.due("the rows", rows.keySet().toString(), wanted.toString());
        due.due("the calls that have an example", called.toString(), wanted.toString());
    }

    /** Each test of the project has a row, and there are no others. */
    private void tests() throws IOException {
        due.under("README.md: how to run its tests");
        Set<String> told = new TreeSet<>();
        Matcher matcher = Pattern.compile("(?m)^\\| `(\\w+Test)` \\| .").matcher(page);
        while (matcher.find()) {
            told.add(matcher.group(1));
        }
        Set<String> seen = new TreeSet<>();
        for (String name : Path.of("src/test/java").toFile().list()) {
            if (name.endsWith("Test.java")) {
                seen.add(name.replace(".java", ""));
            }
        }
        due.due("the tests", told.toString(), seen.toString());
        for (String word : Arrays.asList("bash .ci/run", "at most 512 calls", "../shared/tests", "new LoveGlass()")) {
            due.due("README.md tells " + word, page.contains(word) ? 1 : 0, 1);
        }
    }

    public static void main(String[] args) throws Exception {
        ReadmeTest test = new ReadmeTest(Document.read("README.md"));
        test.examples();
        test.names();
        test.tables();
        test.tests();
        due.end();
    }
}
