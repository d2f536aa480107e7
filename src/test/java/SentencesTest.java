import java.io.IOException;
import java.nio.file.DirectoryStream;
import java.nio.file.Files;
import java.nio.file.Path;
import java.util.List;
import java.util.Set;
import java.util.TreeSet;
import java.util.regex.Matcher;
import java.util.regex.Pattern;

/**
 * SENTENCES.md names a test for each sentence of the document by its title: each title in it is
 * that of a test, and each test's title is in it. It is run in the directory of the project.
 */
public final class SentencesTest {
    private static final Pattern TITLE = Pattern.compile("\"([0-9]+ [a-z][^\"]*)\"");
    private static final Pattern PROMISE = Pattern.compile("## Promise ([0-9]+): .*");

    public static void main(String[] args) throws IOException {
        List<String> lines = Files.readAllLines(Path.of("SENTENCES.md"));
        Set<String> written = titlesInTests();
        Set<String> listed = new TreeSet<>();
        for (String line : lines) {
            if (line.startsWith("- ")) {
                listed.add(line.substring(2));
            }
        }
        for (String title : listed) {
            Script.due("a test has the title " + title, "" + written.contains(title), "true");
        }
        for (String title : written) {
            Script.due("SENTENCES.md lists " + title, "" + listed.contains(title), "true");
        }
        sentencesHaveTitles(lines);
        Script.end();
    }

    private static Set<String> titlesInTests() throws IOException {
        Set<String> titles = new TreeSet<>();
        try (DirectoryStream<Path> files =
                Files.newDirectoryStream(Path.of("src/test/java"), "*Test.java")) {
            for (Path file : files) {
                Matcher found = TITLE.matcher(Files.readString(file));
                while (found.find()) {
                    titles.add(found.group(1));
                }
            }
        }
        return titles;
    }

    /** Below each sentence stands a title, and in a promise's section a title of its number. */
    private static void sentencesHaveTitles(List<String> lines) {
        int promises = 0;
        for (int i = 0; i < lines.size(); i++) {
            String line = lines.get(i);
            Matcher promise = PROMISE.matcher(line);
            if (promise.matches()) {
                promises++;
                Script.due("the order of the promises", promise.group(1), "" + promises);
            }
            if (line.startsWith("> ")) {
                String next = i + 1 < lines.size() ? lines.get(i + 1) : "";
                String start = promises == 0 ? "- " : "- " + promises + " ";
                Script.due("a title below: " + line, "" + next.startsWith(start), "true");
            }
        }
        Script.due("promises", "" + promises, "26");
    }
}
