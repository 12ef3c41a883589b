import java.io.IOException;
import java.nio.file.Files;
import java.nio.file.Path;
import java.util.Map;
import java.util.regex.Matcher;
import java.util.regex.Pattern;

/** Makes the run of calls that README.md shows: each call's answer must be the one that stands behind it. */
public final class ReadmeTest {
    private static final Map<String, Long> NAMES = Map.of("NO", LateRows.NO, "NONE", -1L, "BAD", -2L, "STATE", -3L, "FULL", -4L, "DEAR", -6L);
    private static final Pattern FED = Pattern.compile("^feed\\(rows, \"([^\"]*)\"\\);$");
    private static final Pattern CALL = Pattern.compile("^rows\\.([a-z]+)\\(([^)]*)\\); +// (-?[0-9]+|[A-Z]+)(:.*)?$");

    private final Checks checks = new Checks();
    private Caller rows = new Caller();
    private int calls = 0;

    public static void main(String[] args) throws IOException {
        ReadmeTest t = new ReadmeTest();
        for (String line : Files.readAllLines(Path.of("README.md"))) t.read(line);
        t.checks.due("calls in README.md, 30 at least", Math.min(t.calls, 30), 30);
        t.checks.end();
    }

    private void read(String line) {
        Matcher fed = FED.matcher(line);
        Matcher call = CALL.matcher(line);
        if (line.equals("LateRows rows = new LateRows();")) rows = new Caller();
        else if (fed.matches()) feed(fed.group(1));
        else if (call.matches()) due(line, call.group(1), call.group(2), call.group(3));
        else if (line.startsWith("rows.") || line.startsWith("feed(")) checks.due("no answer stands behind " + line, 0, 1);
    }

    private void feed(String text) {
        for (int i = 0; i < text.length(); i++) rows.call("feed " + (int) text.charAt(i));
    }

    private void due(String line, String name, String numbers, String answer) {
        calls++;
        String written = (name + " " + numbers.replace(",", "")).trim();
        checks.due(line, rows.call(written), NAMES.containsKey(answer) ? NAMES.get(answer) : Long.parseLong(answer));
    }
}
