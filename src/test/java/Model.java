import java.util.ArrayList;
import java.util.HashMap;
import java.util.HashSet;
import java.util.List;
import java.util.Map;
import java.util.Set;

/**
 * The document once more, for the tests: trees of nodes, exceptions for faults and ends, whole copies for what happens
 * in thought. Nothing of it is shared with LateRows.
 */
final class Model {
    static final long NO = -4611686018427387904L;
    private static final List<String> WORDS = List.of("", "from", "list", "map", "keep", "while", "zip", "merge", "take",
        "drop", "scan", "sieve", "cons", "cut");

    private static final class Fault extends RuntimeException {
        private static final long serialVersionUID = 1;
        final int n;

        Fault(int n) {
            super(null, null, false, false);
            this.n = n;
        }
    }

    private static final class Dear extends RuntimeException {
        private static final long serialVersionUID = 1;

        Dear() {
            super(null, null, false, false);
        }
    }

    private static final class Wrong extends RuntimeException {
        private static final long serialVersionUID = 1;
        final int place;

        Wrong(int place) {
            super(null, null, false, false);
            this.place = place;
        }
    }

    private static final class Node {
        int kind;
        int stream;
        char op;
        long num;
        long step;
        List<Long> list = new ArrayList<>();
        List<Node> rows = new ArrayList<>();
        int places = 0;
        boolean ended = false;
        int failed = 0;
        boolean telling = false;
        Map<Integer, Long> numbers = new HashMap<>();
        Map<Integer, Integer> faults = new HashMap<>();
        Set<Integer> headTelling = new HashSet<>();
        // What was kept or taken: the row (0 S, 1 T) and the place in it.
        List<int[]> kept = new ArrayList<>();
        int x = 0;
        int y = 0;

        Node(int kind) {
            this.kind = kind;
        }

        Node copy(boolean withTold) {
            Node n = new Node(kind);
            n.stream = stream;
            n.op = op;
            n.num = num;
            n.step = step;
            n.list.addAll(list);
            for (Node r : rows) n.rows.add(r.copy(withTold));
            if (withTold) {
                n.places = places;
                n.ended = ended;
                n.failed = failed;
                n.numbers.putAll(numbers);
                n.faults.putAll(faults);
                n.kept.addAll(kept);
                n.x = x;
                n.y = y;
            }
            return n;
        }

        void all(List<Node> into) {
            into.add(this);
            for (Node r : rows) r.all(into);
        }

        boolean hasNumber() {
            return List.of(1, 3, 4, 5, 8, 9, 12, 13).contains(kind);
        }
    }

    private StringBuilder tape = new StringBuilder();
    private Node[] roots = new Node[8];
    private int limit = 99;
    private int runs = 0;
    private int most = 0;
    private int latest = 0;
    private Node[] imageRoots = null;
    private int imageLimit = 0;
    private final long[][] sheets = new long[4][];
    private final int[] sorts = new int[4];

    // ---- reading

    private List<String> tokens;
    private List<Integer> starts;
    private int next;
    private int rowsRead;

    private void split(String s) {
        tokens = new ArrayList<>();
        starts = new ArrayList<>();
        int i = 0;
        while (i < s.length()) {
            char c = s.charAt(i);
            if (c == ' ' || c == '\n') {
                i++;
                continue;
            }
            int j = i + 1;
            if (c >= 'a' && c <= 'z') while (j < s.length() && s.charAt(j) >= 'a' && s.charAt(j) <= 'z') j++;
            if (c >= '0' && c <= '9') while (j < s.length() && s.charAt(j) >= '0' && s.charAt(j) <= '9') j++;
            tokens.add(s.substring(i, j));
            starts.add(i);
            i = j;
        }
        tokens.add("");
        starts.add(s.length());
    }

    private Wrong wrong() {
        return new Wrong(starts.get(next));
    }

    private Node row() {
        if (++rowsRead > 24) throw wrong();
        String w = tokens.get(next);
        if (w.matches("[a-h]")) {
            next++;
            Node n = new Node(0);
            n.stream = w.charAt(0) - 'a';
            return n;
        }
        int kind = w.isEmpty() ? -1 : WORDS.indexOf(w);
        if (kind < 1) throw wrong();
        next++;
        Node n = new Node(kind);
        switch (w) {
            case "from" -> { n.num = num(); n.step = num(); }
            case "list" -> {
                n.list.add(num());
                while (tokens.get(next).equals(",")) {
                    if (n.list.size() == 8) throw wrong();
                    next++;
                    n.list.add(num());
                }
            }
            case "map" -> { n.op = sign("+-*/%"); n.num = num(); n.rows.add(row()); }
            case "keep", "while" -> { n.op = sign("<>=%"); n.num = num(); n.rows.add(row()); }
            case "zip" -> { n.op = sign("+-*/%"); n.rows.add(row()); n.rows.add(row()); }
            case "merge" -> { n.rows.add(row()); n.rows.add(row()); }
            case "take", "drop" -> { n.num = natural("[0-9]{1,4}"); n.rows.add(row()); }
            case "scan" -> { n.op = sign("+-*/%"); n.rows.add(row()); }
            case "sieve" -> n.rows.add(row());
            case "cons" -> { n.num = num(); n.rows.add(row()); }
            default -> { n.num = natural("0{0,3}[1-9]"); n.rows.add(row()); }
        }
        return n;
    }

    private long num() {
        if (!tokens.get(next).equals("-")) return natural("[0-9]{1,4}");
        next++;
        return -natural("[0-9]{1,4}");
    }

    private long natural(String form) {
        if (!tokens.get(next).matches(form)) throw wrong();
        return Long.parseLong(tokens.get(next++));
    }

    private char sign(String of) {
        String t = tokens.get(next);
        if (t.length() != 1 || of.indexOf(t.charAt(0)) < 0) throw wrong();
        next++;
        return t.charAt(0);
    }

    // ---- telling

    private void begin(int allowed) {
        runs = 0;
        most = allowed;
    }

    private void run() {
        if (runs == most) throw new Dear();
        runs++;
    }

    private Node behind(Node n) {
        Set<Integer> seen = new HashSet<>();
        while (n.kind == 0) {
            if (!seen.add(n.stream)) throw new Fault(1);
            if (roots[n.stream] == null) throw new Fault(3);
            n = roots[n.stream];
        }
        return n;
    }

    private boolean place(Node name, int i) {
        Node n = behind(name);
        if (i > 63) throw new Fault(4);
        while (n.places <= i) {
            if (n.ended) return false;
            if (n.failed > 0) throw new Fault(n.failed);
            if (n.telling) throw new Fault(1);
            run();
            n.telling = true;
            try {
                if (tellPlace(n, n.places)) n.places++;
                else n.ended = true;
            } catch (Fault f) {
                n.failed = f.n;
            } finally {
                n.telling = false;
            }
        }
        return true;
    }

    private boolean tellPlace(Node n, int i) {
        Node s = n.rows.size() > 0 ? n.rows.get(0) : null;
        Node t = n.rows.size() > 1 ? n.rows.get(1) : null;
        switch (n.kind) {
            case 1: return true;
            case 2: return n.list.size() > i;
            case 3: case 10: return place(s, i);
            case 6: return place(s, i) && place(t, i);
            case 8: return i < n.num && place(s, i);
            case 9: return place(s, (int) (i + n.num));
            case 12: return i == 0 || place(s, i - 1);
            case 13: return place(s, (int) (n.num * (i + 1) - 1));
            case 5: return place(s, i) && passes(n, head(s, i));
            case 4: case 11:
                for (int j = n.x; place(s, j); j++) {
                    long h = head(s, j);
                    if (n.kind == 4 ? passes(n, h) : sieved(n, i, h)) {
                        n.kept.add(new int[] {0, j});
                        n.x = j + 1;
                        return true;
                    }
                }
                return false;
            default: return merged(n, s, t);
        }
    }

    private boolean merged(Node n, Node s, Node t) {
        boolean one = place(s, n.x);
        boolean two = place(t, n.y);
        if (!one && !two) return false;
        int which = one ? two ? Long.compare(head(s, n.x), head(t, n.y)) : -1 : 1;
        n.kept.add(which <= 0 ? new int[] {0, n.x} : new int[] {1, n.y});
        if (which <= 0) n.x++;
        if (which >= 0) n.y++;
        return true;
    }

    private boolean passes(Node n, long h) {
        switch (n.op) {
            case '<': return h < n.num;
            case '>': return h > n.num;
            case '=': return h == n.num;
            default: return divides(n.num, h);
        }
    }

    private static boolean divides(long d, long h) {
        if (d == 0) throw new Fault(2);
        return h % d == 0;
    }

    private boolean sieved(Node n, int i, long h) {
        for (int j = 0; j < i; j++) if (divides(head(n, j), h)) return false;
        return true;
    }

    private long head(Node name, int i) {
        Node n = behind(name);
        if (n.numbers.containsKey(i)) return n.numbers.get(i);
        if (n.faults.containsKey(i)) throw new Fault(n.faults.get(i));
        if (i >= n.places) throw new IllegalStateException("a head is asked of a place that isn't there");
        if (n.headTelling.contains(i)) throw new Fault(1);
        run();
        n.headTelling.add(i);
        try {
            long v = tellHead(n, i);
            n.numbers.put(i, v);
            return v;
        } catch (Fault f) {
            n.faults.put(i, f.n);
            throw f;
        } finally {
            n.headTelling.remove(i);
        }
    }

    private long tellHead(Node n, int i) {
        Node s = n.rows.size() > 0 ? n.rows.get(0) : null;
        switch (n.kind) {
            case 1: return n.num + i * n.step;
            case 2: return n.list.get(i);
            case 3: return join(n.op, head(s, i), n.num);
            case 6: return join(n.op, head(s, i), head(n.rows.get(1), i));
            case 5: case 8: return head(s, i);
            case 9: return head(s, (int) (i + n.num));
            case 12: return i == 0 ? n.num : head(s, i - 1);
            case 10: return i == 0 ? head(s, 0) : join(n.op, head(n, i - 1), head(s, i));
            case 13: {
                long v = 0;
                for (int j = 0; j < n.num; j++) v += head(s, (int) (n.num * i + j));
                return v;
            }
            default: return head(n.rows.get(n.kept.get(i)[0]), n.kept.get(i)[1]);
        }
    }

    private static long join(char op, long a, long b) {
        if ((op == '/' || op == '%') && b == 0) throw new Fault(2);
        return switch (op) {
            case '+' -> a + b;
            case '-' -> a - b;
            case '*' -> a * b;
            case '/' -> a / b;
            default -> a % b;
        };
    }

    /** The number at a PLACE; null where it has ENDED. */
    private Long outcome(int stream, int i) {
        return place(roots[stream], i) ? head(roots[stream], i) : null;
    }

    private Node[] copyOf(Node[] of, boolean withTold) {
        Node[] c = new Node[8];
        for (int s = 0; s < 8; s++) c[s] = of[s] == null ? null : of[s].copy(withTold);
        return c;
    }

    private void untell() {
        roots = copyOf(roots, false);
    }

    private Node node(int stream, int k) {
        if (stream < 0 || stream > 7 || roots[stream] == null) return null;
        List<Node> all = new ArrayList<>();
        roots[stream].all(all);
        return k < 0 || k >= all.size() ? null : all.get(k);
    }

    private static int size(Node n) {
        List<Node> all = new ArrayList<>();
        n.all(all);
        return all.size();
    }

    // ---- calls

    int feed(int b) {
        if (b < 0 || b > 255) return -2;
        if (tape.length() == 120) return -4;
        tape.append((char) b);
        return tape.length();
    }

    int text(int stream) {
        if (stream < 0 || stream > 7) return -2;
        String s = tape.toString();
        tape = new StringBuilder();
        split(s);
        next = 0;
        rowsRead = 0;
        try {
            Node n = row();
            if (next != tokens.size() - 1) throw wrong();
            roots[stream] = n;
            untell();
            return size(n);
        } catch (Wrong w) {
            return -100 - w.place;
        }
    }

    int empty(int stream) {
        if (stream < 0 || stream > 7) return -2;
        int had = roots[stream] == null ? 0 : size(roots[stream]);
        roots[stream] = null;
        untell();
        return had;
    }

    int part(int stream, int k, int what) {
        if (stream < 0 || stream > 7 || what < 0 || what > 5) return -2;
        if (roots[stream] == null) return -3;
        Node n = node(stream, k);
        if (n == null) return -12;
        return switch (what) {
            case 0 -> n.kind;
            case 1 -> size(n);
            case 2 -> n.places;
            case 3 -> n.numbers.size() + n.faults.size();
            case 4 -> n.failed > 0 ? -20 - n.failed : n.ended ? 0 : 1;
            default -> n.kind == 2 ? n.list.size() : -1;
        };
    }

    long number(int stream, int k) {
        Node n = node(stream, k);
        return n != null && n.hasNumber() ? n.num : NO;
    }

    long entry(int stream, int k, int i) {
        Node n = node(stream, k);
        return n != null && i >= 0 && i < n.list.size() ? n.list.get(i) : NO;
    }

    int twist(int stream, int k, int v) {
        if (stream < 0 || stream > 7 || Math.abs((long) v) > 9999) return -2;
        if (roots[stream] == null) return -3;
        Node n = node(stream, k);
        if (n == null) return -12;
        if (!n.hasNumber()) return -13;
        if ((n.kind == 8 || n.kind == 9) && v < 0) return -2;
        if (n.kind == 13 && (v < 1 || v > 9)) return -2;
        n.num = v;
        untell();
        return 1;
    }

    int taken(int stream, int k, int group) {
        if (stream < 0 || stream > 7 || group < 0 || group > 2) return -2;
        if (roots[stream] == null) return -3;
        Node n = node(stream, k);
        if (n == null) return -12;
        return n.rows.size() == group ? size(n) - 1 : -13;
    }

    private static String num(long v) {
        return v < 0 ? "- " + Long.toString(v).substring(1) : Long.toString(v);
    }

    private static String printed(Node n) {
        List<String> t = new ArrayList<>();
        if (n.kind == 0) return "" + (char) ('a' + n.stream);
        t.add(WORDS.get(n.kind));
        if (n.op != 0) t.add("" + n.op);
        if (n.hasNumber()) t.add(num(n.num));
        if (n.kind == 1) t.add(num(n.step));
        for (int i = 0; i < n.list.size(); i++) t.add((i > 0 ? ", " : "") + num(n.list.get(i)));
        for (Node r : n.rows) t.add(printed(r));
        return String.join(" ", t);
    }

    int print(int stream, int k) {
        if (stream < 0 || stream > 7) return -2;
        if (roots[stream] == null) return -3;
        String s = printed(roots[stream]);
        if (k == -1) return s.length();
        return k < 0 || k >= s.length() ? -12 : s.charAt(k);
    }

    private int refused(int stream, int n, int top) {
        if (stream < 0 || stream > 7 || n < 0 || n > top) return -2;
        return roots[stream] == null ? -3 : 0;
    }

    int there(int stream, int i) {
        int r = refused(stream, i, 63);
        if (r != 0) return r;
        begin(limit);
        try {
            return place(roots[stream], i) ? 1 : 0;
        } catch (Fault f) {
            return -20 - f.n;
        } catch (Dear d) {
            return -6;
        } finally {
            latest = runs;
        }
    }

    int is(int stream, int i) {
        int r = refused(stream, i, 63);
        if (r != 0) return r;
        begin(limit);
        try {
            return outcome(stream, i) != null ? 1 : 0;
        } catch (Fault f) {
            return -20 - f.n;
        } catch (Dear d) {
            return -6;
        } finally {
            latest = runs;
        }
    }

    long head(int stream, int i) {
        return is(stream, i) == 1 ? behind(roots[stream]).numbers.get(i) : NO;
    }

    int need(int stream, int i) {
        int r = refused(stream, i, 63);
        if (r != 0) return r;
        Node[] truth = roots;
        roots = copyOf(truth, true);
        begin(99);
        try {
            outcome(stream, i);
            return runs;
        } catch (Fault f) {
            return runs;
        } catch (Dear d) {
            return -6;
        } finally {
            roots = truth;
        }
    }

    int limit(int n) {
        if (n < 0 || n > 99) return -2;
        int was = limit;
        limit = n;
        return was;
    }

    int forget() {
        int n = count(2) + count(3);
        untell();
        return n;
    }

    long sum(int stream, int n) {
        if (refused(stream, n, 64) != 0) return NO;
        begin(limit);
        try {
            long v = 0;
            for (int i = 0; i < n; i++) {
                Long o = outcome(stream, i);
                if (o == null) return v;
                v += o;
            }
            return v;
        } catch (Fault f) {
            return NO;
        } catch (Dear d) {
            return -6;
        } finally {
            latest = runs;
        }
    }

    int find(int stream, long v, int n) {
        int r = refused(stream, n, 64);
        if (r != 0) return r;
        begin(limit);
        try {
            for (int i = 0; i < n; i++) {
                Long o = outcome(stream, i);
                if (o == null) return -1;
                if (o == v) return i;
            }
            return -1;
        } catch (Fault f) {
            return -1;
        } catch (Dear d) {
            return -6;
        } finally {
            latest = runs;
        }
    }

    /** An OUTCOME as a text, so that two can be compared. */
    private String said(int stream, int i) {
        try {
            Long number = outcome(stream, i);
            return number == null ? "ended" : "number " + number;
        } catch (Fault f) {
            return "fault " + f.n;
        }
    }

    int differ(int stream, int other, int n) {
        if (stream < 0 || stream > 7 || other < 0 || other > 7 || n < 0 || n > 64) return -2;
        if (roots[stream] == null || roots[other] == null) return -3;
        begin(limit);
        try {
            for (int i = 0; i < n; i++) {
                String a = said(stream, i);
                String b = said(other, i);
                if (!a.equals(b)) return i;
                if (!a.startsWith("number")) return -1;
            }
            return -1;
        } catch (Dear d) {
            return -6;
        } finally {
            latest = runs;
        }
    }

    int rises(int stream) {
        int r = refused(stream, 0, 0);
        if (r != 0) return r;
        begin(limit);
        int i = 0;
        try {
            Long ahead = null;
            for (; i < 64; i++) {
                Long o = outcome(stream, i);
                if (o == null || ahead != null && o <= ahead) return i;
                ahead = o;
            }
            return 64;
        } catch (Fault f) {
            return i;
        } catch (Dear d) {
            return -6;
        } finally {
            latest = runs;
        }
    }

    int film(int sheet, int stream, int n) {
        if (sheet < 0 || sheet > 3) return -2;
        int r = refused(stream, n, 16);
        if (r != 0) return r;
        begin(limit);
        List<Long> got = new ArrayList<>();
        try {
            for (int i = 0; i < n; i++) {
                Long o = outcome(stream, i);
                if (o == null) break;
                got.add(o);
            }
        } catch (Fault f) {
            // What came ahead of it is filmed.
        } catch (Dear d) {
            return -6;
        } finally {
            latest = runs;
        }
        sheets[sheet] = new long[got.size()];
        sorts[sheet] = 0;
        for (int i = 0; i < got.size(); i++) sheets[sheet][i] = got.get(i);
        return got.size();
    }

    private boolean so(long[] numbers, int stream) {
        begin(limit);
        try {
            for (int i = 0; i < numbers.length; i++) {
                Long o = outcome(stream, i);
                if (o == null || o != numbers[i]) return false;
            }
            return true;
        } catch (Fault | Dear e) {
            return false;
        }
    }

    int tells(int sheet, int stream, int what) {
        if (sheet < 0 || sheet > 3 || stream < 0 || stream > 7) return -2;
        if (what < 0 || what > 0 && what < 4 || what % 4 > 1) return -2;
        if (roots[stream] == null) return -3;
        int k = what / 4 - 1;
        if (what > 0) {
            if (node(stream, k) == null) return -12;
            if (!node(stream, k).hasNumber()) return -13;
        }
        if (sheets[sheet] == null) return -11;
        if (sheets[sheet].length > 16) return -2;
        Node[] truth = roots;
        try {
            return what == 0 ? toldStreams(sheets[sheet]) : toldNumbers(sheets[sheet], stream, k, what % 4);
        } finally {
            roots = truth;
        }
    }

    private int toldStreams(long[] numbers) {
        Node[] truth = roots;
        int bits = 0;
        for (int s = 0; s < 8; s++) {
            roots = copyOf(truth, true);
            if (roots[s] != null && so(numbers, s)) bits += 1 << s;
        }
        return bits;
    }

    private int toldNumbers(long[] numbers, int stream, int k, int which) {
        Node[] truth = roots;
        List<Integer> good = new ArrayList<>();
        boolean cut = node(stream, k).kind == 13;
        for (int v = cut ? 1 : 0; v <= (cut ? 9 : 20); v++) {
            roots = copyOf(truth, false);
            node(stream, k).num = v;
            if (so(numbers, stream)) good.add(v);
        }
        return which == 0 ? good.size() : good.isEmpty() ? -1 : good.get(0);
    }

    int image() {
        imageRoots = copyOf(roots, true);
        imageLimit = limit;
        return count(0);
    }

    int back() {
        if (imageRoots == null) return -3;
        roots = copyOf(imageRoots, true);
        limit = imageLimit;
        return count(0);
    }

    int count(int what) {
        int n = 0;
        for (Node r : roots) {
            if (r == null) continue;
            List<Node> all = new ArrayList<>();
            r.all(all);
            if (what == 0) n++;
            if (what == 1) n += all.size();
            for (Node m : all) {
                if (what == 2) n += m.places;
                if (what == 3) n += m.numbers.size() + m.faults.size();
            }
        }
        return switch (what) {
            case 0, 1, 2, 3 -> n;
            case 4 -> latest;
            case 5 -> tape.length();
            case 6 -> limit;
            default -> -2;
        };
    }

    int sheet(int sheet, int sort, int n) {
        if (sheet < 0 || sheet > 3 || sort < -1 || sort > 2) return -2;
        if (sort >= 0 && n > 40) return -2;
        if (sort >= 0 && n < 0) return -14;
        sheets[sheet] = sort < 0 ? null : new long[n];
        sorts[sheet] = sort;
        return 1;
    }

    int put(int sheet, int i, long v) {
        if (sheet < 0 || sheet > 3) return -2;
        if (sheets[sheet] == null) return -11;
        if (i < 0 || i >= sheets[sheet].length) return -12;
        sheets[sheet][i] = sorts[sheet] == 0 ? v : sorts[sheet] == 1 ? (int) v : (byte) v;
        return 1;
    }

    long item(int sheet, int i) {
        if (sheet < 0 || sheet > 3 || sheets[sheet] == null || i < 0 || i >= sheets[sheet].length) return NO;
        return sheets[sheet][i];
    }

    int copy(int sheet, int i, int other, int j, int n) {
        if (sheet < 0 || sheet > 3 || other < 0 || other > 3) return -2;
        if (sheets[sheet] == null || sheets[other] == null) return -11;
        if (sorts[sheet] != sorts[other]) return -13;
        if (i < 0 || j < 0 || n < 0) return -12;
        if ((long) i + n > sheets[sheet].length || (long) j + n > sheets[other].length) return -12;
        long[] were = sheets[sheet].clone();
        for (int m = 0; m < n; m++) sheets[other][j + m] = were[i + m];
        return n;
    }

    int lay(int sheet, int stream, int sort, int from, int n) {
        if (sheet < 0 || sheet > 3 || stream < 0 || stream > 7 || sort < 0 || sort > 2 || n < 1 || n > 8) return -2;
        if (sheets[sheet] != null && sorts[sheet] != sort) return -13;
        if (sheets[sheet] == null) return -11;
        if (from < 0 || (long) from + n > sheets[sheet].length) return -12;
        Node list = new Node(2);
        for (int i = 0; i < n; i++) list.list.add(sheets[sheet][from + i]);
        roots[stream] = list;
        untell();
        return n;
    }
}
