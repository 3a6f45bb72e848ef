import java.io.IOException;
import java.lang.invoke.MethodHandles;
import java.nio.file.DirectoryStream;
import java.nio.file.Files;
import java.nio.file.Path;
import java.util.ArrayList;
import java.util.List;
import java.util.regex.Matcher;
import java.util.regex.Pattern;
import javax.tools.ToolProvider;

/** What README.md shows is true: its example is compiled and run, and it names each test. */
public final class ReadmeTest {
    /** A call, behind it the answer that is due, and what the reader is told of it. */
    private static final Pattern SHOWN = Pattern.compile("((?:load|flat\\.\\w+)\\([^;]*\\)); +// (-?\\d+|true|false)\\b[^\n]*");

    private ReadmeTest() {
    }

    private static List<String> blocks(String readme) {
        List<String> blocks = new ArrayList<>();
        Matcher block = Pattern.compile("(?s)```java\n(.*?)```").matcher(readme);
        while (block.find()) {
            blocks.add(block.group(1));
        }
        return blocks;
    }

    /** Texts hold semicolons, which are no ends of calls. */
    private static String hideTexts(String block, List<String> texts) {
        Matcher text = Pattern.compile("\"[^\"\n]*\"").matcher(block);
        return text.replaceAll(found -> {
            texts.add(found.group());
            return "TEXT" + (texts.size() - 1) + "_";
        });
    }

    private static String showTexts(String block, List<String> texts) {
        String shown = block;
        for (int i = 0; i < texts.size(); i++) {
            shown = shown.replace("TEXT" + i + "_", texts.get(i));
        }
        return shown;
    }

    private static String program(String helper, String example) {
        List<String> texts = new ArrayList<>();
        Matcher call = SHOWN.matcher(hideTexts(example, texts));
        String calls = call.replaceAll(found -> {
            String what = found.group(1).replaceAll("\\s+", " ").replaceAll("TEXT.*_", "a text");
            return Matcher.quoteReplacement("Check.due(\"" + what + "\", " + found.group(1) + ", " + found.group(2) + ");");
        });
        return "final class Example {\n" + helper + "static void run() {\n" + showTexts(calls, texts) + "}\n}\n";
    }

    private static void run(String program) throws IOException, ReflectiveOperationException {
        Path folder = Files.createTempDirectory("readme");
        try {
            Path file = folder.resolve("Example.java");
            Files.writeString(file, program);
            int result = ToolProvider.getSystemJavaCompiler().run(null, null, null,
                    "-cp", System.getProperty("java.class.path"), "-d", folder.toString(), file.toString());
            Check.due("the example is compiled", result, 0);
            if (result == 0) {
                byte[] compiled = Files.readAllBytes(folder.resolve("Example.class"));
                MethodHandles.lookup().defineClass(compiled).getDeclaredMethod("run").invoke(null);
            }
        } finally {
            remove(folder);
        }
    }

    private static void remove(Path folder) throws IOException {
        try (DirectoryStream<Path> files = Files.newDirectoryStream(folder)) {
            for (Path file : files) {
                Files.delete(file);
            }
        }
        Files.delete(folder);
    }

    private static void namesTests(String readme) throws IOException {
        try (DirectoryStream<Path> tests = Files.newDirectoryStream(Path.of("src/test/java"), "*Test.java")) {
            for (Path test : tests) {
                String name = test.getFileName().toString().replace(".java", "");
                Check.due("README.md names " + name, readme.contains("- `" + name), true);
            }
        }
    }

    public static void main(String[] args) throws IOException, ReflectiveOperationException {
        String readme = Files.readString(Path.of("README.md"));
        List<String> blocks = blocks(readme);
        Check.due("blocks of code", blocks.size(), 2);
        if (blocks.size() == 2) {
            int before = Check.answers();
            run(program(blocks.get(0), blocks.get(1)));
            int shown = blocks.get(1).split("// ", -1).length - 1;
            Check.due("answers shown", Check.answers() - before - 1, shown);
        }
        namesTests(readme);
        Check.end("ReadmeTest");
    }
}
