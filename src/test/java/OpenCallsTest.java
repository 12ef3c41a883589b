import java.io.IOException;
import java.lang.reflect.Method;
import java.net.URL;
import java.net.URLClassLoader;
import java.nio.file.Files;
import java.nio.file.Path;
import java.util.Comparator;
import java.util.List;
import java.util.Map;
import java.util.stream.Stream;
import javax.tools.ToolProvider;

/**
 * LANGUAGE.md, rule 8: the calls that stand open at once stay under 300. A copy of the program counts them, in runs of
 * calls whose asking goes as deep as LIMIT lets it: long chains of parts, through all streams.
 */
public final class OpenCallsTest {
    private static final int BOUND = 300;
    private static final String COPY = "CountedRows";
    private static final int MOST_CALLS = 512;
    private static final int ASKS = 60;
    // Each is written many times, through some streams that name one another, till the 512 calls are nearly used up.
    private static final List<String> LINKS = List.of("cut1", "map+0", "scan+", "keep>0", "while>0", "sieve ", "cons9", "drop1", "take9");
    private static final List<String> FORKS = List.of("zip+", "merge ");

    private final Class<?> type;
    private final Object rows;
    private int calls = 0;

    private OpenCallsTest(Class<?> type) throws ReflectiveOperationException {
        this.type = type;
        rows = type.getConstructor().newInstance();
    }

    public static void main(String[] args) throws IOException, ReflectiveOperationException {
        Path folder = Files.createTempDirectory("counted");
        try {
            Path file = Files.writeString(folder.resolve(COPY + ".java"), counted());
            int answer = ToolProvider.getSystemJavaCompiler().run(null, null, null, "--release", "17",
                "-cp", System.getProperty("java.class.path"), "-d", folder.toString(), file.toString());
            if (answer != 0) throw new IllegalStateException("the copy doesn't compile");
            try (URLClassLoader loader = new URLClassLoader(new URL[] {folder.toUri().toURL()})) {
                Class<?> type = loader.loadClass(COPY);
                for (String link : LINKS) new OpenCallsTest(type).goDown(link.repeat(Math.min(23, 110 / link.length())), "");
                for (String fork : FORKS) new OpenCallsTest(type).goDown(fork.repeat(11), " h".repeat(11));
                for (String link : LINKS) new OpenCallsTest(type).goRound(link);
            }
        } finally {
            delete(folder);
        }
        int most = OpenCalls.most();
        System.out.println("at most " + most + " calls stood open at once");
        // Fewer than one a RUN would mean that nothing went deep.
        if (most >= BOUND || most < 99 || OpenCalls.open() != 0) System.exit(1);
    }

    private static String counted() throws IOException {
        Program program = Program.read();
        StringBuilder text = new StringBuilder(Files.readString(Program.FILE));
        for (Map.Entry<Long, Long> body : program.bodies.descendingMap().entrySet()) {
            text.insert((int) (body.getValue() - 1), "} finally { OpenCalls.out(); } ");
            text.insert((int) (body.getKey() + 1), " OpenCalls.in(); try {");
        }
        return text.toString().replace("LateRows", COPY);
    }

    private long call(String name, int... n) throws ReflectiveOperationException {
        calls++;
        if (calls > MOST_CALLS) throw new IllegalStateException("more than " + MOST_CALLS + " calls");
        for (Method m : type.getMethods()) {
            if (!m.getName().equals(name) || m.getParameterCount() != n.length) continue;
            Object[] given = new Object[n.length];
            for (int i = 0; i < n.length; i++) given[i] = n[i];
            return ((Number) m.invoke(rows, given)).longValue();
        }
        throw new IllegalStateException("no such call: " + name);
    }

    private void lay(int stream, String text) throws ReflectiveOperationException {
        for (int i = 0; i < text.length(); i++) call("feed", text.charAt(i));
        if (call("text", stream) < 1) throw new IllegalStateException("no text: " + text);
    }

    /** Streams that name one another, the last one names h: what is asked of the first goes down through all of them. */
    private void goDown(String ahead, String behind) throws ReflectiveOperationException {
        lay(7, "list 7,5,9,8");
        int bytes = ahead.length() + behind.length() + 2;
        int streams = Math.min(7, (MOST_CALLS - ASKS - calls) / bytes);
        for (int s = 0; s < streams; s++) lay(s, ahead + (s == streams - 1 ? 'h' : (char) ('b' + s)) + behind);
        askTillTold();
    }

    /** A stream that names itself: what is asked of a late place goes back to the first, round by round. */
    private void goRound(String link) throws ReflectiveOperationException {
        lay(0, "cons 5 " + link.repeat(3) + "a");
        while (calls < MOST_CALLS - ASKS) call("there", 0, 63);
        askTillTold();
        call("is", 0, 63);
    }

    /** DEAR, again and again, till it is told: places first, then their heads. */
    private void askTillTold() throws ReflectiveOperationException {
        for (int i = 0; i < 3; i++) {
            for (int n = 0; n < 9; n++) call("there", 0, i);
            for (int n = 0; n < 9; n++) call("is", 0, i);
        }
    }

    private static void delete(Path folder) throws IOException {
        try (Stream<Path> found = Files.walk(folder)) {
            for (Path path : found.sorted(Comparator.reverseOrder()).toList()) Files.delete(path);
        }
    }
}
