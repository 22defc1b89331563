import java.io.IOException;
import java.nio.file.DirectoryStream;
import java.nio.file.Files;
import java.nio.file.Path;
import java.util.List;
import java.util.regex.Matcher;
import java.util.regex.Pattern;

/**
 * README.md's example of use answers as README.md says it does. Behind a call
 * stands "// answer: why", "// throws Exception: why", or, if it answers
 * nothing, what it does.
 */
public final class ReadmeTest {
    private static final Path README = Path.of("README.md");
    private static final Path TESTS = Path.of("src/test/java");
    private static final String NEW_OBJECT = "RevisionGrove grove = new RevisionGrove();";
    private static final Pattern ROW = Pattern.compile("grove\\.(\\w+\\(.*\\)); +// (.+)");
    private static final Pattern ANSWER = Pattern.compile("(-?\\d+): .+");
    private static final Pattern THROWN = Pattern.compile("throws (\\w+): .+");

    public static void main(String[] args) throws IOException {
        exampleAnswers(Files.readAllLines(README));
        namesEveryTest(Files.readString(README));
        Report.end();
    }

    private static void exampleAnswers(List<String> readme) {
        int begin = readme.indexOf("```java") + 1;
        List<String> rest = readme.subList(begin, readme.size());
        List<String> example = rest.subList(0, rest.indexOf("```"));
        Report.due("README.md", "the example's first line", example.get(0), NEW_OBJECT);
        Run run = new Run("README.md's example");
        for (String line : example.subList(1, example.size())) {
            Matcher row = ROW.matcher(line);
            if (row.matches()) {
                run.due(row.group(1), due(row.group(2)));
            } else {
                Report.due("README.md's example", "a line", line, "a call, and what it answers");
            }
        }
    }

    private static String due(String comment) {
        Matcher answer = ANSWER.matcher(comment);
        if (answer.matches()) {
            return answer.group(1);
        }
        Matcher thrown = THROWN.matcher(comment);
        return thrown.matches() ? "throws." + thrown.group(1) : "done";
    }

    private static void namesEveryTest(String readme) throws IOException {
        try (DirectoryStream<Path> files = Files.newDirectoryStream(TESTS, "*.java")) {
            for (Path file : files) {
                String name = file.getFileName().toString().replace(".java", "");
                Report.due("README.md", "names " + name, "" + readme.contains("`" + name + "`"), "true");
            }
        }
    }
}
