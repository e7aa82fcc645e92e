import java.io.IOException;
import java.nio.file.Files;
import java.nio.file.Path;
import java.util.List;
import java.util.regex.Matcher;
import java.util.regex.Pattern;

/** The rows of README.md: the last call of each answers what stands behind it. */
public final class ReadmeTest {
    private static final Path README = Path.of("README.md");
    private static final Pattern CALL = Pattern.compile("x\\.(\\w+)\\(([^)]*)\\);");
    private static final Pattern ANSWER = Pattern.compile("// (-?\\d+|[A-Z]+):");
    private static final List<String> NAMES = List.of("feed", "tale", "told", "taleAt", "motif", "costAt", "pair", "step", "node",
        "types", "middle", "common", "wandered", "take", "cost", "kind", "road", "at", "drift", "undo", "write", "tear", "seed",
        "keep", "goBack");

    private final Check check = new Check();
    private final Run run = new Run();

    public static void main(String[] args) throws IOException {
        ReadmeTest test = new ReadmeTest();
        String text = Files.readString(README);
        int rows = 0;
        for (String line : text.split("\n")) {
            if (line.startsWith("x.")) {
                test.row(line);
                rows++;
            }
        }
        test.check.isTrue("rows were found", rows > 20);
        for (String name : NAMES) {
            test.check.isTrue("README.md names " + name, text.contains("`" + name + "`"));
        }
        test.check.end("ReadmeTest");
    }

    private void row(String line) {
        Matcher calls = CALL.matcher(line);
        int answer = 0;
        while (calls.find()) {
            answer = run.ask(new Call(calls.group(1), numbers(calls.group(2))));
        }
        Matcher due = ANSWER.matcher(line);
        check.isTrue("an answer stands behind: " + line, due.find());
        check.due(line, answer, number(due.group(1)));
    }

    private static int[] numbers(String arguments) {
        if (arguments.isEmpty()) return new int[0];
        String[] words = arguments.split(", ");
        int[] numbers = new int[words.length];
        for (int i = 0; i < words.length; i++) {
            numbers[i] = number(words[i]);
        }
        return numbers;
    }

    private static int number(String word) {
        if (word.startsWith("'")) return word.charAt(1);
        switch (word) {
            case "true": return 1;
            case "false": return 0;
            case "NONE": return TaleTypes.NONE;
            case "UNKNOWN": return TaleTypes.UNKNOWN;
            case "OUTSIDE": return TaleTypes.OUTSIDE;
            case "NOT": return TaleTypes.NOT;
            case "FULL": return TaleTypes.FULL;
            default: return Integer.parseInt(word);
        }
    }
}
