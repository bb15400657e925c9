import java.io.IOException;
import java.nio.file.Files;
import java.nio.file.Path;
import java.util.ArrayList;
import java.util.List;
import java.util.regex.Matcher;
import java.util.regex.Pattern;
import java.util.stream.Stream;

/** README.md's calls answer what it says, and each promise has tests that tell its words; run where README.md is. */
public final class ReadmeTest extends Scripts {
    private static final int PROMISES = 22;

    public static void main(String[] args) throws IOException {
        String readme = Files.readString(Path.of("README.md"));
        RuleStack x = good(block(readme, "text"));
        int calls = 0;
        Matcher line = Pattern.compile("table\\.(\\w+)\\((.*?)\\); +// (\\S+)\n").matcher(block(readme, "java"));
        while (line.find()) {
            // The text has been compiled already.
            if (!line.group(1).equals("compile")) {
                due(line.group().trim(), answer(x, call(line.group(1), line.group(2).replace(",", ""))), line.group(3));
                calls++;
            }
        }
        due("README.md shows calls", "" + (calls > 10), "true");
        promisesHaveTests();
        testsAreTold(readme);
        finish();
    }

    private static String block(String readme, String kind) {
        Matcher block = Pattern.compile("```" + kind + "\n(.*?)```", Pattern.DOTALL).matcher(readme);
        return block.find() ? block.group(1) : "";
    }

    private static String call(String name, String arguments) {
        return arguments.startsWith("true ") ? "canReply " + arguments.substring(5)
            : arguments.startsWith("false ") ? "canAct " + arguments.substring(6) : name + " " + arguments;
    }

    private static List<Path> tests() throws IOException {
        try (Stream<Path> files = Files.list(Path.of("src/test/java"))) {
            return files.sorted().toList();
        }
    }

    private static void promisesHaveTests() throws IOException {
        List<String> found = new ArrayList<>();
        for (Path test : tests()) {
            Matcher told = Pattern.compile("sentence\\(\"Promise (\\d+), ").matcher(Files.readString(test));
            while (told.find()) {
                found.add(told.group(1));
            }
        }
        for (int promise = 1; promise <= PROMISES; promise++) {
            due("tests of promise " + promise, "" + found.contains("" + promise), "true");
        }
    }

    private static void testsAreTold(String readme) throws IOException {
        for (Path test : tests()) {
            due("README.md tells of " + test, "" + readme.contains(test.getFileName().toString()), "true");
        }
    }
}
