import java.io.IOException;
import java.nio.file.Files;
import java.nio.file.Path;
import java.util.ArrayList;
import java.util.List;
import java.util.Map;
import java.util.TreeSet;
import java.util.regex.Matcher;
import java.util.regex.Pattern;
import java.util.stream.Stream;

/**
 * Runs the files under src/test/sentences: each test there stands under a sentence of the document that names a boundary
 * case, and begins with a new object. README.md tells how they are written.
 */
public final class SentencesTest {
    private static final Path FILES = Path.of("src/test/sentences");
    private static final Path DOCUMENT = Path.of("../shared/DOC.md");
    private static final Map<String, Long> NAMES = Map.of("NONE", -1L, "BAD", -2L, "STATE", -3L, "FULL", -4L, "DEAR", -6L,
        "NO", LateRows.NO, "MAX", Long.MAX_VALUE, "MIN", Long.MIN_VALUE, "MAXINT", (long) Integer.MAX_VALUE,
        "MININT", (long) Integer.MIN_VALUE);
    private static final Pattern AGAIN = Pattern.compile("\\{([^}]*)\\}(\\d+)");
    private static final Pattern CODE = Pattern.compile("\\\\(\\d+);");

    private final Path file;
    private final String document;
    private final TreeSet<Integer> promises = new TreeSet<>();
    private final List<String> wrong = new ArrayList<>();
    private Caller caller = new Caller();
    private String title = "";
    private boolean quoted = false;
    private int tests = 0;
    private int line = 0;

    private SentencesTest(Path file, String document) {
        this.file = file;
        this.document = document;
    }

    public static void main(String[] args) throws IOException {
        String document = plain(Files.readString(DOCUMENT));
        List<Path> files;
        try (Stream<Path> found = Files.list(FILES)) {
            files = found.sorted().toList();
        }
        int tests = 0;
        TreeSet<Integer> promises = new TreeSet<>();
        List<String> wrong = new ArrayList<>();
        for (Path file : files) {
            SentencesTest t = new SentencesTest(file, document);
            for (String s : Files.readAllLines(file)) t.read(s);
            tests += t.tests;
            promises.addAll(t.promises);
            wrong.addAll(t.wrong);
        }
        for (int n = 1; n <= 30; n++) if (!promises.contains(n)) wrong.add("no test for promise " + n);
        for (String w : wrong) System.out.println(w);
        System.out.println(tests + " tests of sentences, " + wrong.size() + " answers are not as due");
        if (!wrong.isEmpty() || tests == 0) System.exit(1);
    }

    private static String plain(String text) {
        return text.replaceAll("\\s+", " ");
    }

    private void wrong(String what) {
        wrong.add(file.getFileName() + ":" + line + " (" + title + ") " + what);
    }

    private void due(String call, long got, long want) {
        if (got != want) wrong(call + " answered " + got + ", due is " + want);
    }

    private void read(String s) {
        line++;
        if (s.isBlank() || s.startsWith("#")) return;
        if (s.startsWith("== ")) {
            begin(s.substring(3));
        } else if (s.startsWith("> ")) {
            quoted = true;
            if (!document.contains(plain(s.substring(2)))) wrong("the document doesn't say: " + s.substring(2));
        } else {
            if (!quoted) wrong("no sentence of the document stands ahead");
            step(s);
        }
    }

    /** A title begins with the promise's number, or with a word for what stands under Terms. */
    private void begin(String name) {
        title = name;
        tests++;
        quoted = false;
        caller = new Caller();
        Matcher number = Pattern.compile("^\\d+").matcher(name);
        if (number.find()) promises.add(Integer.parseInt(number.group()));
    }

    private void step(String s) {
        String[] sides = s.split(" : ", 2);
        String[] ends = sides[0].split(" = ");
        String call = ends[0];
        if (call.equals("tape")) feed(unfold(sides[1]));
        else if (call.startsWith("printed ")) due(s, printed(call.substring(8)).equals(unfold(sides[1])) ? 1 : 0, 1);
        else if (call.startsWith("row ")) row(call.substring(4), number(ends[1]), sides[1]);
        else if (call.startsWith("! ")) refused(named(call.substring(2)), number(ends[1]));
        else {
            if (sides.length > 1) feed(unfold(sides[1]));
            due(call, caller.call(named(call)), number(ends[1]));
        }
    }

    private static long number(String s) {
        return NAMES.containsKey(s) ? NAMES.get(s) : Long.parseLong(s);
    }

    private static String named(String call) {
        String[] words = call.split(" ");
        for (int i = 1; i < words.length; i++) words[i] = "" + number(words[i]);
        return String.join(" ", words);
    }

    /** What stands between quotes: {..}n is .. n times, \n; is the byte n. */
    private static String unfold(String quotedText) {
        if (!quotedText.startsWith("\"") || !quotedText.endsWith("\"")) throw new IllegalStateException("no quotes: " + quotedText);
        String s = quotedText.substring(1, quotedText.length() - 1);
        s = AGAIN.matcher(s).replaceAll(m -> Matcher.quoteReplacement(m.group(1).repeat(Integer.parseInt(m.group(2)))));
        return CODE.matcher(s).replaceAll(m -> Matcher.quoteReplacement("" + (char) Integer.parseInt(m.group(1))));
    }

    private void feed(String text) {
        long size = caller.call("count 5");
        for (int i = 0; i < text.length(); i++) due("feed", caller.call("feed " + (int) text.charAt(i)), size + i + 1);
    }

    private String printed(String stream) {
        StringBuilder s = new StringBuilder();
        long size = caller.call("print " + stream + " -1");
        for (int k = 0; k < size; k++) s.append((char) caller.call("print " + stream + " " + k));
        return s.toString();
    }

    /** The numbers of a stream from place 0 on, and the outcome of the place behind them. */
    private void row(String stream, long behind, String numbers) {
        String[] words = numbers.isBlank() ? new String[0] : numbers.trim().split(" ");
        for (int i = 0; i < words.length; i++) {
            due("is " + stream + " " + i, caller.call("is " + stream + " " + i), 1);
            due("head " + stream + " " + i, caller.call("head " + stream + " " + i), number(words[i]));
        }
        due("is " + stream + " " + words.length, caller.call("is " + stream + " " + words.length), behind);
    }

    /** A refused call changes nothing: an object that had it is as one that hadn't. */
    private void refused(String call, long want) {
        Caller had = caller.twin();
        due(call, had.call(call), want);
        String unlike = Twins.difference(had, caller.twin());
        if (!unlike.isEmpty()) wrong(call + " has changed something: " + unlike);
        due(call, caller.call(call), want);
    }
}
