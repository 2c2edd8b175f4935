import java.io.IOException;
import java.nio.file.Files;
import java.nio.file.Path;
import java.util.HashMap;
import java.util.Map;
import java.util.regex.Matcher;
import java.util.regex.Pattern;

/** The run of calls in README.md, each call with the number that its comment begins with. */
public final class ReadmeTest {
    private static final Pattern BLOCK = Pattern.compile("```java\n(.*?)```", Pattern.DOTALL);
    private static final Pattern MADE = Pattern.compile("FundMoves x = new FundMoves\\(\\);");
    private static final Pattern CALL =
            Pattern.compile("(?:int (\\w+) = )?x\\.(\\w+)\\(([^)]*)\\);\\s+// (-?\\d+)\\b.*");

    public static void main(String[] args) throws IOException {
        Matcher block = BLOCK.matcher(Files.readString(Path.of(System.getProperty("fundmoves.readme"))));
        Check.isTrue("README.md has a run of calls", block.find());
        String run = block.group(1);
        Asked asked = new Asked();
        Map<String, String> names = new HashMap<>();
        for (String line : run.split("\n")) {
            if (!line.isEmpty() && !MADE.matcher(line).matches()) {
                answersAsWritten(line, asked, names);
            }
        }
        for (String of : new String[] {"begin", "order", "pass", "step", "force", "setPrice", "owes", "losses"}) {
            Check.isTrue("README.md shows " + of, run.contains("x." + of + "("));
        }
        Check.end();
    }

    private static void answersAsWritten(String line, Asked asked, Map<String, String> names) {
        Matcher call = CALL.matcher(line);
        Check.isTrue("README.md: a call with its answer: " + line, call.matches());
        StringBuilder inside = new StringBuilder();
        for (String part : call.group(3).split(", ")) {
            inside.append(inside.length() == 0 ? "" : ", ").append(names.getOrDefault(part, part));
        }
        String got = asked.ask(call.group(2) + "(" + inside + ")");
        Check.told("README.md: " + line, call.group(4), got);
        if (call.group(1) != null) {
            names.put(call.group(1), got);
        }
    }
}
