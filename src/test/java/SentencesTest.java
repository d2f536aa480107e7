import java.io.IOException;
import java.nio.file.DirectoryStream;
import java.nio.file.Files;
import java.nio.file.Path;
import java.util.LinkedHashMap;
import java.util.List;
import java.util.Map;
import java.util.Set;
import java.util.TreeSet;
import java.util.regex.Matcher;
import java.util.regex.Pattern;

/**
 * SENTENCES.md holds the document, cut into sentences, and names the tests of each by their titles:
 * no word of the document is missing there, each title is that of a test, and each test's title
 * is there. It is run in the directory of the project.
 */
public final class SentencesTest {
    private static final Pattern TITLE = Pattern.compile("\"([0-9]+ [a-z][^\"]*)\"");
    private static final Pattern PROMISE = Pattern.compile("## Promise ([0-9]+): .*");

    public static void main(String[] args) throws IOException {
        List<String> document = Files.readAllLines(Path.of("../shared/DOC.md"));
        List<String> lines = Files.readAllLines(Path.of("SENTENCES.md"));
        Map<String, String> due = textsOfDocument(document);
        Map<String, String> quoted = textsQuoted(lines);
        Script.due("the sections", "" + quoted.keySet(), "" + due.keySet());
        for (String section : due.keySet()) {
            Script.due(section, quoted.get(section), due.get(section));
        }
        titlesAreThoseOfTests(lines);
        sentencesHaveTitles(lines);
        Script.end();
    }

    /** The text below each heading, in which any space is one space. */
    private static Map<String, String> textsOfDocument(List<String> document) {
        Map<String, String> texts = new LinkedHashMap<>();
        String section = "";
        for (String line : document) {
            if (line.startsWith("## ")) {
                section = line;
                texts.put(section, "");
            } else if (!section.isEmpty() && !line.isBlank() && !line.startsWith("```")) {
                texts.merge(section, line.trim(), SentencesTest::joined);
            }
        }
        return texts;
    }

    private static Map<String, String> textsQuoted(List<String> lines) {
        Map<String, String> texts = new LinkedHashMap<>();
        String section = "";
        for (String line : lines) {
            if (line.startsWith("## ")) {
                section = line;
                texts.put(section, "");
            } else if (line.startsWith("> ")) {
                texts.merge(section, line.substring(2).trim(), SentencesTest::joined);
            }
        }
        return texts;
    }

    private static String joined(String text, String more) {
        return (text + " " + more).trim();
    }

    private static void titlesAreThoseOfTests(List<String> lines) throws IOException {
        Set<String> written = titlesInTests();
        Set<String> listed = new TreeSet<>();
        for (String line : lines) {
            if (line.startsWith("- ") && !line.startsWith("- (")) {
                listed.add(line.substring(2));
            }
        }
        for (String title : listed) {
            Script.due("a test has the title " + title, "" + written.contains(title), "true");
        }
        for (String title : written) {
            Script.due("SENTENCES.md lists " + title, "" + listed.contains(title), "true");
        }
    }

    private static Set<String> titlesInTests() throws IOException {
        Set<String> titles = new TreeSet<>();
        try (DirectoryStream<Path> files =
                Files.newDirectoryStream(Path.of("src/test/java"), "*Test.java")) {
            for (Path file : files) {
                Matcher found = TITLE.matcher(Files.readString(file));
                while (found.find()) {
                    titles.add(found.group(1));
                }
            }
        }
        return titles;
    }

    /** Below each sentence stands a title, and in a promise's section a title of its number. */
    private static void sentencesHaveTitles(List<String> lines) {
        int promises = 0;
        boolean inPromise = false;
        for (int i = 0; i < lines.size(); i++) {
            String line = lines.get(i);
            if (line.startsWith("## ")) {
                Matcher promise = PROMISE.matcher(line);
                inPromise = promise.matches();
                if (inPromise) {
                    promises++;
                    Script.due("the order of the promises", promise.group(1), "" + promises);
                }
            }
            if (line.startsWith("> ")) {
                String next = i + 1 < lines.size() ? lines.get(i + 1) : "";
                String start = inPromise ? "- " + promises + " " : "- ";
                Script.due("a title below: " + line, "" + next.startsWith(start), "true");
            }
        }
        Script.due("promises", "" + promises, "26");
    }
}
