import java.util.ArrayList;
import java.util.List;
import java.util.Random;

/** Random runs of calls: each answer of LateRows is compared with the Model's. The seeds are fixed. */
public final class ModelTest {
    private static final int RUNS = 4000;
    private static final int CALLS = 512;
    private static final int[] ODD = {Integer.MIN_VALUE, -10000, -2, -1, 99, 100, 9999, 10000, Integer.MAX_VALUE - 3, Integer.MAX_VALUE};
    private static final String[] WORDS = {"from", "list", "map", "keep", "while", "zip", "merge", "take", "drop",
        "scan", "sieve", "cons", "cut", "a", "b", "c", "h", "i", "1", "12345", "+", "-", "*", "/", "%", "<", ">", "=", ",", ";", "0", "9"};

    private final Random random;
    private final LateRows x = new LateRows();
    private final Model m = new Model();
    private final List<String> log = new ArrayList<>();
    private final int[] seen;
    private final int streams;
    private boolean wrong = false;

    private ModelTest(long seed, int[] seen) {
        random = new Random(seed);
        this.seen = seen;
        streams = 1 + random.nextInt(4);
    }

    public static void main(String[] args) {
        int runs = args.length > 0 ? Integer.parseInt(args[0]) : RUNS;
        int[] seen = new int[10];
        for (int seed = 0; seed < runs; seed++) {
            ModelTest t = new ModelTest(seed, seen);
            while (t.log.size() < CALLS && !t.wrong) t.call();
            if (t.wrong) {
                System.out.println("seed " + seed + ":");
                for (String line : t.log) System.out.println("  " + line);
                System.exit(1);
            }
        }
        System.out.println(runs + " runs are as the model's");
        System.out.println("seen: numbers " + seen[0] + ", ends " + seen[1] + ", faults 1 to 4 " + seen[2] + " " + seen[3]
            + " " + seen[4] + " " + seen[5] + ", dear " + seen[6] + ", told by a stream " + seen[7] + ", by a number " + seen[8]);
        for (int i = 0; i < 9; i++) if (seen[i] == 0) System.exit(1);
    }

    private void same(String call, long got, long want) {
        if (log.size() >= CALLS) return;
        log.add(call + " = " + got + (got == want ? "" : ", the model says " + want));
        wrong |= got != want;
    }

    private int any(int n) {
        return random.nextInt(n);
    }

    /** Mostly one of 0 .. n - 1, now and then an odd one. */
    private int near(int n) {
        int how = any(30);
        return how == 0 ? ODD[any(ODD.length)] : how == 1 ? n : how == 2 ? -1 : any(n);
    }

    private int stream() {
        return any(12) == 0 ? near(8) : any(streams);
    }

    private int place() {
        return any(3) == 0 ? near(64) : any(12);
    }

    private String num() {
        int how = any(10);
        String n = how == 0 ? "" + any(10000) : how == 1 ? "0" : how == 2 ? "- " + any(12) : how == 3 ? "00" + any(9) : "" + (1 + any(6));
        return n;
    }

    private String op(String of) {
        return "" + of.charAt(any(of.length()));
    }

    private String row(int depth) {
        int kind = depth <= 0 ? any(3) : any(14);
        switch (kind) {
            case 0: return "" + (char) ('a' + (any(15) == 0 ? any(8) : any(streams)));
            case 1: return "from " + num() + " " + (any(3) == 0 ? num() : "1");
            case 2: {
                StringBuilder s = new StringBuilder("list " + num());
                for (int n = any(8); n > 0; n--) s.append(",").append(num());
                return s.toString();
            }
            case 3: return "map " + op("+-*/%") + num() + " " + row(depth - 1);
            case 4: return "keep " + op("<>=%") + num() + " " + row(depth - 1);
            case 5: return "while " + op("<>=%") + num() + " " + row(depth - 1);
            case 6: return "zip " + op("+-*/%") + " " + row(depth - 1) + " " + row(depth - 1);
            case 7: return "merge " + row(depth - 1) + " " + row(depth - 1);
            case 8: return "take " + any(any(2) == 0 ? 90 : 9) + " " + row(depth - 1);
            case 9: return "drop " + any(any(5) == 0 ? 90 : 4) + " " + row(depth - 1);
            case 10: return "scan " + op("+-*/%") + " " + row(depth - 1);
            case 11: return "sieve " + row(depth - 1);
            case 12: return "cons " + num() + " " + row(depth - 1);
            default: return "cut " + (1 + any(any(4) == 0 ? 9 : 3)) + " " + row(depth - 1);
        }
    }

    private String tapeText() {
        if (any(12) == 0) {
            StringBuilder s = new StringBuilder();
            for (int n = any(8); n >= 0; n--) s.append(WORDS[any(WORDS.length)]).append(any(3) == 0 ? "\n" : any(3) == 0 ? "" : " ");
            return s.toString();
        }
        String t = any(4) == 0 ? "cons " + num() + " " + row(2) : row(1 + any(3));
        if (any(10) == 0 && t.length() > 2) {
            int at = any(t.length());
            t = t.substring(0, at) + (any(2) == 0 ? "" : (char) any(256)) + t.substring(at + 1);
        }
        return t;
    }

    private void tape() {
        String t = tapeText();
        for (int i = 0; i < t.length(); i++) same("feed(" + (int) t.charAt(i) + ")", x.feed(t.charAt(i)), m.feed(t.charAt(i)));
        int s = any(20) == 0 ? near(8) : any(streams);
        same("text(" + s + ") of '" + t + "'", x.text(s), m.text(s));
    }

    private void call() {
        if (log.isEmpty()) for (int i = 0; i < streams; i++) tape();
        switch (any(11)) {
            case 0: if (any(4) == 0) tape(); else texts(); break;
            case 1: case 2: texts(); break;
            case 3: sheets(); break;
            case 4: counts(); break;
            case 5: case 6: readBack(); break;
            default: asks();
        }
    }

    private void texts() {
        int s = stream();
        int k = any(3) == 0 ? near(24) : any(5);
        int v = any(3) == 0 ? near(10000) : any(10) - 3;
        switch (any(40)) {
            case 0: same("empty(" + s + ")", x.empty(s), m.empty(s)); break;
            case 1: case 2: same("twist(" + s + ", " + k + ", " + v + ")", x.twist(s, k, v), m.twist(s, k, v)); break;
            case 3: same("feed(" + v + ")", x.feed(v), m.feed(v)); break;
            case 4: case 5: case 6: same("number(" + s + ", " + k + ")", x.number(s, k), m.number(s, k)); break;
            case 7: case 8: case 9: {
                int i = near(8);
                same("entry(" + s + ", " + k + ", " + i + ")", x.entry(s, k, i), m.entry(s, k, i));
                break;
            }
            case 10: case 11: case 12: case 13: {
                int g = near(3);
                same("taken(" + s + ", " + k + ", " + g + ")", x.taken(s, k, g), m.taken(s, k, g));
                break;
            }
            case 14: case 15: same("print(" + s + ", -1)", x.print(s, -1), m.print(s, -1)); break;
            case 16: case 17: case 18: {
                int b = near(60);
                same("print(" + s + ", " + b + ")", x.print(s, b), m.print(s, b));
                break;
            }
            default: {
                int what = near(6);
                same("part(" + s + ", " + k + ", " + what + ")", x.part(s, k, what), m.part(s, k, what));
            }
        }
    }

    private void asks() {
        int s = stream();
        int i = place();
        int n = any(4) == 0 ? near(65) : any(12);
        switch (any(16)) {
            case 0: case 1: same("there(" + s + ", " + i + ")", x.there(s, i), m.there(s, i)); break;
            case 2: case 3: case 4: {
                int got = x.is(s, i);
                if (got >= 0) seen[1 - got]++;
                if (got <= -21) seen[-19 - got]++;
                if (got == -6) seen[6]++;
                same("is(" + s + ", " + i + ")", got, m.is(s, i));
                break;
            }
            case 5: case 6: same("head(" + s + ", " + i + ")", x.head(s, i), m.head(s, i)); break;
            case 7: case 8: same("need(" + s + ", " + i + ")", x.need(s, i), m.need(s, i)); break;
            case 9: {
                int most = any(3) == 0 ? 99 : near(100);
                same("limit(" + most + ")", x.limit(most), m.limit(most));
                break;
            }
            case 10: if (any(6) == 0) same("forget()", x.forget(), m.forget()); break;
            case 11: same("sum(" + s + ", " + n + ")", x.sum(s, n), m.sum(s, n)); break;
            case 12: {
                long v = any(20) - 5;
                same("find(" + s + ", " + v + ", " + n + ")", x.find(s, v, n), m.find(s, v, n));
                break;
            }
            case 13: case 14: {
                int o = any(3) == 0 ? s : stream();
                same("differ(" + s + ", " + o + ", " + n + ")", x.differ(s, o, n), m.differ(s, o, n));
                break;
            }
            default: same("rises(" + s + ")", x.rises(s), m.rises(s));
        }
        if (any(3) == 0) same("count(4)", x.count(4), m.count(4));
    }

    private void readBack() {
        int sheet = any(20) == 0 ? near(4) : any(2);
        int s = stream();
        switch (any(10)) {
            case 0: case 1: case 2: {
                int n = any(4) == 0 ? near(17) : any(6);
                same("film(" + sheet + ", " + s + ", " + n + ")", x.film(sheet, s, n), m.film(sheet, s, n));
                break;
            }
            case 3: if (any(3) == 0) same("image()", x.image(), m.image()); break;
            case 4: if (any(3) == 0) same("back()", x.back(), m.back()); break;
            case 5: case 6: tells(sheet, s, 0); break;
            default: tells(sheet, s, any(10) == 0 ? near(30) : 4 * (1 + any(6)) + any(2));
        }
    }

    private void tells(int sheet, int s, int what) {
        int got = x.tells(sheet, s, what);
        if (got > 0) seen[what == 0 ? 7 : 8]++;
        same("tells(" + sheet + ", " + s + ", " + what + ")", got, m.tells(sheet, s, what));
    }

    private void counts() {
        int what = near(7);
        same("count(" + what + ")", x.count(what), m.count(what));
    }

    private void sheets() {
        int s = any(10) == 0 ? near(4) : any(3);
        int o = any(10) == 0 ? near(4) : any(3);
        int i = any(3) == 0 ? near(40) : any(6);
        int j = any(3) == 0 ? near(40) : any(6);
        int n = any(3) == 0 ? near(40) : any(6);
        int sort = near(4) - 1;
        switch (any(8)) {
            case 0: same("sheet(" + s + ", " + sort + ", " + n + ")", x.sheet(s, sort, n), m.sheet(s, sort, n)); break;
            case 1: case 2: case 3: {
                long v = any(4) == 0 ? random.nextLong() : any(5) == 0 ? Long.MIN_VALUE : any(9) - 2;
                same("put(" + s + ", " + i + ", " + v + ")", x.put(s, i, v), m.put(s, i, v));
                break;
            }
            case 4: case 5: same("item(" + s + ", " + i + ")", x.item(s, i), m.item(s, i)); break;
            case 6:
                same("copy(" + s + ", " + i + ", " + o + ", " + j + ", " + n + ")", x.copy(s, i, o, j, n), m.copy(s, i, o, j, n));
                break;
            default: {
                if (any(3) != 0) break;
                int t = stream();
                same("lay(" + s + ", " + t + ", " + sort + ", " + i + ", " + n + ")", x.lay(s, t, sort, i, n), m.lay(s, t, sort, i, n));
            }
        }
    }
}
