import java.io.ByteArrayOutputStream;
import java.io.IOException;
import java.io.PrintStream;
import java.net.URL;
import java.net.URLClassLoader;
import java.nio.file.Files;
import java.nio.file.Path;
import java.util.ArrayList;
import java.util.List;
import java.util.regex.Matcher;
import java.util.regex.Pattern;
import javax.tools.JavaCompiler;
import javax.tools.ToolProvider;

/**
 * README.md answers what it says: its example is compiled and prints what stands behind '//', and
 * its rows of calls are in the words of the document. It is run in the directory of the project.
 */
public final class ReadmeTest {
    private static final Pattern EXAMPLE = Pattern.compile("```java\n(.*?)```", Pattern.DOTALL);
    private static final Pattern PRINTED =
            Pattern.compile(" *System\\.out\\.println\\(.*\\); +// ([^,\n]*).*");
    private static final Pattern PROMISE =
            Pattern.compile("## Promise [0-9]+: (.*?)\n(.*?)(?=\n## )", Pattern.DOTALL);
    private static final Pattern SIGNATURE = Pattern.compile("`([^`]*\\)).*?`: (.*)");
    private static final Pattern THROWN = Pattern.compile("Throws `(\\w+)` if (.*)");

    private static final List<String> EXCEPTIONS = List.of("IllegalArgumentException",
            "IndexOutOfBoundsException", "IllegalStateException");

    public static void main(String[] args) throws Exception {
        String readme = Files.readString(Path.of("README.md"));
        example(readme);
        calls(readme, Files.readString(Path.of("../shared/DOC.md")));
        Script.end();
    }

    private static void example(String readme) throws Exception {
        Matcher found = EXAMPLE.matcher(readme);
        Script.due("README.md has an example", "" + found.find(), "true");
        String source = found.group(1);
        List<String> due = new ArrayList<>();
        for (String line : source.split("\n")) {
            Matcher printed = PRINTED.matcher(line);
            Script.due("what it prints stands behind it: " + line.trim(),
                    "" + printed.matches(), "" + line.contains("System.out"));
            if (printed.matches()) {
                due.add(printed.group(1));
            }
        }
        List<String> got = run(source);
        Script.due("lines that the example prints", "" + got.size(), "" + due.size());
        for (int i = 0; i < due.size() && i < got.size(); i++) {
            Script.due("line " + (i + 1) + " of the example", got.get(i), due.get(i));
        }
    }

    private static List<String> run(String source) throws Exception {
        Path directory = Files.createTempDirectory("readme");
        Path file = directory.resolve("Example.java");
        Files.writeString(file, source);
        JavaCompiler compiler = ToolProvider.getSystemJavaCompiler();
        int failed = compiler.run(null, null, null, "-d", directory.toString(),
                "src/main/java/DirectoryServers.java", file.toString());
        Script.due("javac of the example", "" + failed, "0");
        PrintStream usual = System.out;
        ByteArrayOutputStream bytes = new ByteArrayOutputStream();
        try (URLClassLoader loader =
                new URLClassLoader(new URL[] {directory.toUri().toURL()}, null)) {
            System.setOut(new PrintStream(bytes, true));
            loader.loadClass("Example").getMethod("main", String[].class)
                    .invoke(null, (Object) new String[0]);
        } finally {
            System.setOut(usual);
            delete(directory);
        }
        return List.of(bytes.toString().split("\\R"));
    }

    private static void delete(Path directory) throws IOException {
        try (var files = Files.list(directory)) {
            for (Path file : (Iterable<Path>) files::iterator) {
                Files.delete(file);
            }
        }
        Files.delete(directory);
    }

    /** Each call has a row, in the order of the promises. */
    private static void calls(String readme, String document) {
        List<String> rows = new ArrayList<>();
        for (String line : readme.split("\n")) {
            if (line.startsWith("| `")) {
                rows.add(line.replaceAll("\\s+", " "));
            }
        }
        List<String> due = new ArrayList<>();
        Matcher promise = PROMISE.matcher(document);
        while (promise.find()) {
            if (!promise.group(1).equals("A new object")) {
                due.add(row(promise.group(2)));
            }
        }
        Script.due("rows of calls", "" + rows.size(), "25");
        Script.due("calls of the document", "" + due.size(), "25");
        for (int i = 0; i < due.size() && i < rows.size(); i++) {
            Script.due("row " + (i + 1) + " of the calls", rows.get(i), due.get(i));
        }
    }

    private static String row(String promise) {
        StringBuilder text = new StringBuilder();
        String[] conditions = {"", "", ""};
        String call = "";
        for (String line : promise.split("\n")) {
            Matcher signature = SIGNATURE.matcher(line);
            Matcher thrown = THROWN.matcher(line);
            if (signature.matches()) {
                call = signature.group(1).replaceAll("([(,] ?)int ", "$1");
                text.append(signature.group(2));
            } else if (thrown.matches()) {
                conditions[EXCEPTIONS.indexOf(thrown.group(1))] = thrown.group(2);
            } else if (!line.isBlank() && !line.startsWith("- ")) {
                text.append(' ').append(line);
            }
        }
        String row = "| `" + call + "` | " + text + " | " + String.join(" | ", conditions) + " |";
        return row.replaceAll("\\s+", " ");
    }
}
