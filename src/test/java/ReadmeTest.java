import java.io.IOException;
import java.io.UncheckedIOException;
import java.lang.reflect.Method;
import java.nio.file.Files;
import java.nio.file.Path;
import java.util.ArrayList;
import java.util.List;
import java.util.Set;
import java.util.TreeSet;
import java.util.regex.Matcher;
import java.util.regex.Pattern;
import java.util.stream.Stream;

/** README.md tells the truth: its example answers as it says, its tables tell what the document tells. */
public final class ReadmeTest {
    private static final Path DOCUMENT = Path.of("../shared/DOC.md");
    private static final Path TESTS = Path.of("src/test/java");
    private static final int PROMISED_CALLS = 26;
    private static final Pattern CONSTANT = Pattern.compile("INVALID_ARGUMENT|NOT_POSSIBLE|LIMIT_REACHED|NOT_FOUND");
    private static final Pattern EXAMPLE = Pattern.compile("terrace\\.(\\w+)\\((.*?)\\); +// ([A-Z_]+|\\d+)(: .+)?");
    private static final Pattern HEAD = Pattern.compile("`int (\\w+\\([^)]*\\))`: .*");

    private final String readme = text(Path.of("README.md"));

    public static void main(String[] args) throws Exception {
        ReadmeTest test = new ReadmeTest();
        test.exampleAnswersAsTold();
        test.callsAreRefusedAsTheDocumentTells();
        test.constantsHaveTheirValues();
        test.testsAreTold();
        Due.end();
    }

    private void exampleAnswersAsTold() throws Exception {
        int begin = readme.indexOf("```java\n") + "```java\n".length();
        String[] lines = readme.substring(begin, readme.indexOf("```\n", begin)).split("\n");
        Due.holds("README: " + lines[0], lines[0].equals("SluiceTurns terrace = new SluiceTurns();"));
        SluiceTurns terrace = new SluiceTurns();
        for (int i = 1; i < lines.length; i++) {
            Matcher example = EXAMPLE.matcher(lines[i]);
            boolean isCall = example.matches();
            Due.holds("README, a call with its answer: " + lines[i], isCall);
            if (isCall) {
                int answer = answer(terrace, example.group(1), example.group(2));
                Due.is("README: " + lines[i], valueOf(example.group(3)), answer);
            }
        }
        Due.holds("README: an example of some calls", lines.length > 10);
    }

    private static int answer(SluiceTurns terrace, String name, String arguments) throws Exception {
        List<Object> values = new ArrayList<>();
        for (String argument : arguments.isEmpty() ? new String[0] : arguments.split(", ")) {
            values.add(argument.startsWith("'") ? (int) argument.charAt(1) : Integer.parseInt(argument));
        }
        for (Method method : SluiceTurns.class.getMethods()) {
            if (method.getName().equals(name) && method.getParameterCount() == values.size()) {
                return (int) method.invoke(terrace, values.toArray());
            }
        }
        throw new IllegalArgumentException("no such call: " + name);
    }

    private static int valueOf(String answer) throws Exception {
        return CONSTANT.matcher(answer).matches() ? SluiceTurns.class.getField(answer).getInt(null)
                : Integer.parseInt(answer);
    }

    private void callsAreRefusedAsTheDocumentTells() {
        int calls = 0;
        for (String chapter : text(DOCUMENT).split("\n## ")) {
            Matcher head = HEAD.matcher(chapter);
            if (chapter.startsWith("Promise ") && head.find()) {
                calls++;
                String call = head.group(1).replace("int ", "");
                String row = lineWith("| `" + call + "` |");
                Due.holds("README has a row for " + call, !row.isEmpty());
                Due.holds("README: " + call + " is refused with " + constantsIn(chapter),
                        constantsIn(row).equals(constantsIn(chapter)));
                Due.holds("README: whether " + call + " is ever refused",
                        row.endsWith("| never |") == constantsIn(chapter).isEmpty());
            }
        }
        Due.is("calls that the document promises", PROMISED_CALLS, calls);
    }

    private void constantsHaveTheirValues() throws Exception {
        int before = 0;
        for (String name : List.of("INVALID_ARGUMENT", "NOT_POSSIBLE", "LIMIT_REACHED", "NOT_FOUND")) {
            int at = readme.indexOf("| `" + name + "` | " + valueOf(name) + " |");
            Due.holds("README: the value of " + name + ", in the order in which they are answered", at > before);
            before = at;
        }
    }

    private void testsAreTold() throws IOException {
        Due.holds("README: how the tests are run", !lineWith("    bash .ci/run").isEmpty());
        try (Stream<Path> files = Files.list(TESTS)) {
            for (Path file : files.toList()) {
                String name = file.getFileName().toString().replace(".java", "");
                boolean isTold = readme.contains("`" + name + "`") || name.startsWith("SentencesOf");
                Due.holds("README: what " + name + " is", isTold);
            }
        }
    }

    private String lineWith(String beginning) {
        return readme.lines().filter(line -> line.startsWith(beginning)).findFirst().orElse("");
    }

    private static Set<String> constantsIn(String text) {
        Set<String> constants = new TreeSet<>();
        CONSTANT.matcher(text).results().forEach(found -> constants.add(found.group()));
        return constants;
    }

    private static String text(Path file) {
        try {
            return Files.readString(file);
        } catch (IOException e) {
            throw new UncheckedIOException(e);
        }
    }
}
