import java.io.IOException;
import java.io.UncheckedIOException;
import java.nio.file.Files;
import java.nio.file.Path;
import java.util.Arrays;
import java.util.LinkedHashMap;
import java.util.Map;
import java.util.regex.Matcher;
import java.util.regex.Pattern;

/**
 * The sentences of the document, by its sections. A test quotes the one that it tests, so that what nobody quotes can
 * be told at the end.
 */
final class Sentences {
    private static final Pattern PROMISE = Pattern.compile("## (Promise \\d+): .*");
    private static final Pattern TOPIC = Pattern.compile("(## What it is|FLAT|PROPOSAL|SPLIT|DIVISION|MONTHS|DEPOSITS|CHANGES|TEXT FORMAT|The constants)\\b.*");
    /** Words that tell of a boundary, or of a call that is refused. */
    private static final Pattern BOUNDARY = Pattern.compile("NOT_FOUND|BAD_VALUE|FULL|NOT_ALLOWED|NO_NUMBER|[A-Z]+_ERROR|Throws"
            + "|\\d+ to \\d+|\\b(if|at most|least|greatest|greater|lesser|lowest|lower|rounded|none|nothing|nobody|negative|initial|initially|empty)\\b");
    private static final Map<String, String> TEXTS = read();
    private static final Map<String, boolean[]> QUOTED = new LinkedHashMap<>();

    private Sentences() {
    }

    private static Map<String, String> read() {
        Map<String, StringBuilder> texts = new LinkedHashMap<>();
        String section = "";
        try {
            for (String line : Files.readAllLines(Path.of("../shared/DOC.md"))) {
                Matcher promise = PROMISE.matcher(line);
                Matcher topic = TOPIC.matcher(line);
                if (promise.matches()) {
                    section = promise.group(1);
                } else if (topic.matches() && !section.startsWith("Promise")) {
                    section = topic.group(1).replace("## ", "");
                } else if (line.startsWith("## ")) {
                    section = "";
                }
                texts.computeIfAbsent(section, s -> new StringBuilder()).append(line.trim()).append(' ');
            }
        } catch (IOException e) {
            throw new UncheckedIOException(e);
        }
        Map<String, String> all = new LinkedHashMap<>();
        texts.forEach((name, text) -> all.put(name, text.toString().replaceAll("\\s+", " ")));
        all.remove("");
        return all;
    }

    /** Runs the test of a sentence, or of a part of one, which must stand in that section of the document. */
    static void holds(String section, String quote, Runnable test) {
        String text = TEXTS.getOrDefault(section, "");
        Check.about("");
        Check.due(section + " says '" + quote + "'", text.contains(quote), true);
        boolean[] quoted = QUOTED.computeIfAbsent(section, s -> new boolean[text.length()]);
        for (int at = text.indexOf(quote); at >= 0; at = text.indexOf(quote, at + 1)) {
            Arrays.fill(quoted, at, at + quote.length(), true);
        }
        int before = Check.answers();
        Check.about(section + ", '" + quote + "': ");
        test.run();
        Check.about("");
        Check.due(section + ", '" + quote + "' was tested", Check.answers() > before, true);
    }

    /** Each word of the document that tells of a boundary must stand in a quote. */
    static void checkAllQuoted() {
        Check.due("65 promises and 10 other sections", TEXTS.size(), 65 + 10);
        for (Map.Entry<String, String> section : TEXTS.entrySet()) {
            boolean[] quoted = QUOTED.getOrDefault(section.getKey(), new boolean[section.getValue().length()]);
            Matcher word = BOUNDARY.matcher(section.getValue());
            while (word.find()) {
                int from = Math.max(0, word.start() - 40);
                int to = Math.min(section.getValue().length(), word.end() + 40);
                Check.due(section.getKey() + " is tested at '" + section.getValue().substring(from, to) + "'", quoted[word.start()], true);
            }
        }
    }
}
