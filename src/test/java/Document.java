import java.io.IOException;
import java.nio.charset.StandardCharsets;
import java.nio.file.Files;
import java.nio.file.Path;
import java.util.ArrayList;
import java.util.List;
import java.util.regex.Matcher;
import java.util.regex.Pattern;

/** What `../shared/DOC.md` has of the class's face, so that the tests need not tell it again. Read in the project's folder. */
final class Document {
    /** A promise: its number, its title, its head as Java has it, and the words behind that. */
    static final class Promise {
        final int number;
        final String title;
        final String head;
        final String words;

        Promise(Matcher matcher) {
            number = Integer.parseInt(matcher.group(1));
            title = matcher.group(2);
            head = matcher.group(3);
            words = matcher.group(4);
        }
    }

    private static final Pattern PROMISE = Pattern.compile("(?m)^## Promise (\\d+): (.*)\n\n`([^`]*)`: (.*)$");

    private Document() {
    }

    static String read(String path) throws IOException {
        return Files.readString(Path.of(path), StandardCharsets.UTF_8);
    }

    /** The Java code blocks of a page, each with its lines. */
    static List<String[]> javaBlocks(String page) {
        List<String[]> blocks = new ArrayList<>();
        Matcher matcher = Pattern.compile("(?s)```java\n(.*?)```").matcher(page);
        while (matcher.find()) {
            blocks.add(matcher.group(1).split("\n"));
        }
        return blocks;
    }

    static List<Promise> promises() throws IOException {
        List<Promise> promises = new ArrayList<>();
        Matcher matcher = PROMISE.matcher(read("../shared/DOC.md"));
        while (matcher.find()) {
            promises.add(new Promise(matcher));
        }
        return promises;
    }

    /** The lines of the code block under 'The public face', without the class's own two. */
    static List<String> face() throws IOException {
        String page = read("../shared/DOC.md");
        List<String> lines = new ArrayList<>();
        for (String line : javaBlocks(page.substring(page.indexOf("## The public face"))).get(0)) {
            if (line.startsWith("    ")) {
                lines.add(line.trim());
            }
        }
        return lines;
    }

    /** Those of some words that a text has, in the order in which it has them, each once. */
    static List<String> wordsIn(String text, String... words) {
        List<String> found = new ArrayList<>();
        Matcher matcher = Pattern.compile("\\b(" + String.join("|", words) + ")\\b").matcher(text);
        while (matcher.find()) {
            if (!found.contains(matcher.group())) {
                found.add(matcher.group());
            }
        }
        return found;
    }
}
