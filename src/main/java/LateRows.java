/** Rows that are told late: streams read from texts, told place by place, each number once. */
public final class LateRows {
    public static final int NONE = -1, BAD = -2, STATE = -3, FULL = -4, DEAR = -6;
    public static final long NO = -4611686018427387904L;

    private static final int MISSING = -11, OUTSIDE = -12, UNLIKE = -13, TOO_SMALL = -14;
    private static final int THERE = 1, ENDED = 0;
    private static final int RING = -21, BY_ZERO = -22, NO_TEXT = -23, TOO_FAR = -24;

    private static final int STREAMS = 8, MOST_PARTS = 24, MOST_NUMS = 8, PLACES = 64;
    private static final int MOST_BYTES = 120, MOST_DIGITS = 4, MOST_NUM = 9999, MOST_CUT = 9;
    private static final int MOST_RUNS = 99, MOST_TRIED = 20;
    private static final int SHEETS = 4, MOST_ITEMS = 40, MOST_FILMED = 16;
    private static final int LONGS = 0, INTS = 1, BYTES = 2;

    private static final int NAME = 0, FROM = 1, LIST = 2, MAP = 3, KEEP = 4, WHILE = 5, ZIP = 6;
    private static final int MERGE = 7, TAKE = 8, DROP = 9, SCAN = 10, SIEVE = 11, CONS = 12, CUT = 13;
    private static final int KINDS = 14;

    private final Reader reader;
    private final Printer printer;
    private final Texts texts;
    private final Told told;
    private final Told thought;
    private final Teller teller;
    private final Sheets sheets;
    private final long[] filmed;
    private final Texts imageTexts;
    private final Told imageTold;
    private int imageAllowed;
    private boolean imageKept;
    private int allowed;
    private int latestRuns;

    public LateRows() {
        reader = new Reader();
        printer = new Printer();
        texts = new Texts(STREAMS);
        told = new Told(STREAMS * MOST_PARTS);
        thought = new Told(STREAMS * MOST_PARTS);
        teller = new Teller(texts, told);
        sheets = new Sheets();
        filmed = new long[MOST_FILMED];
        imageTexts = new Texts(STREAMS);
        imageTold = new Told(STREAMS * MOST_PARTS);
        imageAllowed = MOST_RUNS;
        imageKept = false;
        allowed = MOST_RUNS;
        latestRuns = 0;
    }

    // ---- texts

    public int feed(int letter) {
        if (letter < 0 || letter > 255) return BAD;
        return reader.addByte(letter);
    }

    public int text(int stream) {
        if (!isStream(stream)) return BAD;
        int answer = reader.readTape();
        // A text with a FAULT is no TEXT: the STREAM keeps what it had.
        if (answer > 0) {
            texts.takeStream(reader.read, 0, stream);
            told.untell();
        }
        return answer;
    }

    public int empty(int stream) {
        if (!isStream(stream)) return BAD;
        int had = texts.parts[stream];
        texts.parts[stream] = 0;
        told.untell();
        return had;
    }

    public int part(int stream, int k, int what) {
        if (!isStream(stream) || what < 0 || what > 5) return BAD;
        if (isEmpty(stream)) return STATE;
        if (!hasPart(stream, k)) return OUTSIDE;
        int p = stream * MOST_PARTS + k;
        switch (what) {
            case 0: return texts.kinds[p];
            case 1: return texts.sizes[p];
            case 2: return told.places[p];
            case 3: return told.heads[p];
            case 4: return told.goings[p];
            default: return texts.kinds[p] == LIST ? texts.amounts[p] : NONE;
        }
    }

    public long number(int stream, int k) {
        if (!hasPart(stream, k)) return NO;
        int p = stream * MOST_PARTS + k;
        return Kinds.hasNumber(texts.kinds[p]) ? texts.numbers[p] : NO;
    }

    public long entry(int stream, int k, int i) {
        if (!hasPart(stream, k)) return NO;
        int p = stream * MOST_PARTS + k;
        if (texts.kinds[p] != LIST || i < 0 || i >= texts.amounts[p]) return NO;
        return texts.entries[p * MOST_NUMS + i];
    }

    public int twist(int stream, int k, int v) {
        if (!isStream(stream) || v < -MOST_NUM || v > MOST_NUM) return BAD;
        if (isEmpty(stream)) return STATE;
        if (!hasPart(stream, k)) return OUTSIDE;
        int p = stream * MOST_PARTS + k;
        int kind = texts.kinds[p];
        if (!Kinds.hasNumber(kind)) return UNLIKE;
        if (!Kinds.allows(kind, v)) return BAD;
        texts.numbers[p] = v;
        told.untell();
        return 1;
    }

    public int taken(int stream, int k, int group) {
        if (!isStream(stream) || group < 0 || group > 2) return BAD;
        if (isEmpty(stream)) return STATE;
        if (!hasPart(stream, k)) return OUTSIDE;
        int p = stream * MOST_PARTS + k;
        if (Kinds.rows(texts.kinds[p]) != group) return UNLIKE;
        return texts.sizes[p] - 1;
    }

    public int print(int stream, int k) {
        if (!isStream(stream)) return BAD;
        if (isEmpty(stream)) return STATE;
        printer.writeStream(texts, stream);
        if (k == -1) return printer.size;
        if (k < 0 || k >= printer.size) return OUTSIDE;
        return printer.bytes[k];
    }

    // ---- what is told

    public int there(int stream, int i) {
        int refusal = refusedPlace(stream, i);
        if (refusal != 0) return refusal;
        teller.begin(told, allowed);
        return counted(teller.isThere(stream, i));
    }

    public int is(int stream, int i) {
        int refusal = refusedPlace(stream, i);
        if (refusal != 0) return refusal;
        teller.begin(told, allowed);
        return counted(teller.outcome(stream, i));
    }

    public long head(int stream, int i) {
        if (refusedPlace(stream, i) != 0) return NO;
        teller.begin(told, allowed);
        return counted(teller.outcome(stream, i)) == THERE ? teller.value : NO;
    }

    public int need(int stream, int i) {
        int refusal = refusedPlace(stream, i);
        if (refusal != 0) return refusal;
        thought.takeAll(told);
        teller.begin(thought, MOST_RUNS);
        return teller.outcome(stream, i) == DEAR ? DEAR : teller.runs;
    }

    public int limit(int n) {
        if (n < 0 || n > MOST_RUNS) return BAD;
        int was = allowed;
        allowed = n;
        return was;
    }

    public int forget() {
        int were = told.allPlaces() + told.allHeads();
        told.untell();
        return were;
    }

    public long sum(int stream, int n) {
        if (refusedRow(stream, n, PLACES) != 0) return NO;
        teller.begin(told, allowed);
        int how = counted(teller.addUp(stream, n));
        if (how == DEAR) return DEAR;
        return how == THERE ? teller.value : NO;
    }

    public int find(int stream, long v, int n) {
        int refusal = refusedRow(stream, n, PLACES);
        if (refusal != 0) return refusal;
        teller.begin(told, allowed);
        return counted(teller.placeOf(stream, v, n));
    }

    public int differ(int stream, int other, int n) {
        if (!isStream(stream) || !isStream(other) || n < 0 || n > PLACES) return BAD;
        if (isEmpty(stream) || isEmpty(other)) return STATE;
        teller.begin(told, allowed);
        return counted(teller.firstUnlike(stream, other, n));
    }

    public int rises(int stream) {
        int refusal = refusedRow(stream, 0, PLACES);
        if (refusal != 0) return refusal;
        teller.begin(told, allowed);
        return counted(teller.rising(stream));
    }

    // ---- what was told

    public int film(int sheet, int stream, int n) {
        if (!isSheet(sheet)) return BAD;
        int refusal = refusedRow(stream, n, MOST_FILMED);
        if (refusal != 0) return refusal;
        teller.begin(told, allowed);
        int size = counted(teller.gather(stream, n, filmed));
        if (size == DEAR) return DEAR;
        sheets.renew(sheet, LONGS, size);
        for (int i = 0; i < size; i++) sheets.write(sheet, i, filmed[i]);
        return size;
    }

    public int tells(int sheet, int stream, int what) {
        if (!isSheet(sheet) || !isStream(stream) || !isQuestion(what)) return BAD;
        if (isEmpty(stream)) return STATE;
        int k = what / 4 - 1;
        if (what != 0) {
            if (!hasPart(stream, k)) return OUTSIDE;
            if (!Kinds.hasNumber(texts.kinds[stream * MOST_PARTS + k])) return UNLIKE;
        }
        if (sheets.isMissing(sheet)) return MISSING;
        if (sheets.sizes[sheet] > MOST_FILMED) return BAD;
        return what == 0 ? tellingStreams(sheet) : tellingNumbers(sheet, stream, k, what % 4 == 1);
    }

    public int image() {
        imageTexts.takeAll(texts);
        imageTold.takeAll(told);
        imageAllowed = allowed;
        imageKept = true;
        return texts.filledStreams();
    }

    public int back() {
        if (!imageKept) return STATE;
        texts.takeAll(imageTexts);
        told.takeAll(imageTold);
        allowed = imageAllowed;
        return texts.filledStreams();
    }

    public int count(int what) {
        switch (what) {
            case 0: return texts.filledStreams();
            case 1: return texts.allParts();
            case 2: return told.allPlaces();
            case 3: return told.allHeads();
            case 4: return latestRuns;
            case 5: return reader.size;
            case 6: return allowed;
            default: return BAD;
        }
    }

    // ---- the host

    public int sheet(int sheet, int sort, int n) {
        if (!isSheet(sheet) || sort < Sheets.NO_SORT || sort > BYTES) return BAD;
        if (sort == Sheets.NO_SORT) {
            sheets.renew(sheet, Sheets.NO_SORT, 0);
            return 1;
        }
        if (n > MOST_ITEMS) return BAD;
        if (n < 0) return TOO_SMALL;
        sheets.renew(sheet, sort, n);
        return 1;
    }

    public int put(int sheet, int i, long v) {
        if (!isSheet(sheet)) return BAD;
        if (sheets.isMissing(sheet)) return MISSING;
        if (!sheets.spans(sheet, i, 1)) return OUTSIDE;
        sheets.write(sheet, i, v);
        return 1;
    }

    public long item(int sheet, int i) {
        if (!isSheet(sheet) || sheets.isMissing(sheet) || !sheets.spans(sheet, i, 1)) return NO;
        return sheets.read(sheet, i);
    }

    public int copy(int sheet, int i, int other, int j, int n) {
        if (!isSheet(sheet) || !isSheet(other)) return BAD;
        if (sheets.isMissing(sheet) || sheets.isMissing(other)) return MISSING;
        if (sheets.sorts[sheet] != sheets.sorts[other]) return UNLIKE;
        if (!sheets.spans(sheet, i, n) || !sheets.spans(other, j, n)) return OUTSIDE;
        sheets.move(sheet, i, other, j, n);
        return n;
    }

    public int lay(int sheet, int stream, int sort, int from, int n) {
        if (!isSheet(sheet) || !isStream(stream)) return BAD;
        if (sort < LONGS || sort > BYTES || n < 1 || n > MOST_NUMS) return BAD;
        // A missing SHEET may be taken for one of any sort, as the host takes null.
        if (!sheets.isMissing(sheet) && sheets.sorts[sheet] != sort) return UNLIKE;
        if (sheets.isMissing(sheet)) return MISSING;
        if (!sheets.spans(sheet, from, n)) return OUTSIDE;
        int p = stream * MOST_PARTS;
        texts.clearPart(p, LIST);
        texts.amounts[p] = n;
        for (int i = 0; i < n; i++) texts.entries[p * MOST_NUMS + i] = sheets.read(sheet, from + i);
        texts.close(stream, 1);
        told.untell();
        return n;
    }

    // ---- what the calls share

    private static boolean isStream(int stream) {
        return stream >= 0 && stream < STREAMS;
    }

    private static boolean isSheet(int sheet) {
        return sheet >= 0 && sheet < SHEETS;
    }

    private static boolean isQuestion(int what) {
        return what == 0 || what >= 4 && what % 4 <= 1;
    }

    private boolean isEmpty(int stream) {
        return texts.parts[stream] == 0;
    }

    private boolean hasPart(int stream, int k) {
        return isStream(stream) && k >= 0 && k < texts.parts[stream];
    }

    private int refusedPlace(int stream, int i) {
        return refusedRow(stream, i, PLACES - 1);
    }

    private int refusedRow(int stream, int n, int most) {
        if (!isStream(stream) || n < 0 || n > most) return BAD;
        return isEmpty(stream) ? STATE : 0;
    }

    private int counted(int answer) {
        latestRuns = teller.runs;
        return answer;
    }

    private int tellingStreams(int sheet) {
        int bits = 0;
        for (int stream = 0; stream < STREAMS; stream++) {
            if (isEmpty(stream)) continue;
            thought.takeAll(told);
            if (isToldBy(sheet, stream)) bits |= 1 << stream;
        }
        return bits;
    }

    /** How many NUMBERS, put in for that of PART k, make it so; or the least of them. */
    private int tellingNumbers(int sheet, int stream, int k, boolean least) {
        int p = stream * MOST_PARTS + k;
        int own = texts.numbers[p];
        int many = 0;
        int first = NONE;
        for (int v = 0; v <= MOST_TRIED; v++) {
            if (!Kinds.allows(texts.kinds[p], v)) continue;
            texts.numbers[p] = v;
            thought.untell();
            if (!isToldBy(sheet, stream)) continue;
            many++;
            if (first == NONE) first = v;
        }
        texts.numbers[p] = own;
        return least ? first : many;
    }

    private boolean isToldBy(int sheet, int stream) {
        teller.begin(thought, allowed);
        for (int i = 0; i < sheets.sizes[sheet]; i++) {
            if (teller.outcome(stream, i) != THERE) return false;
            if (teller.value != sheets.read(sheet, i)) return false;
        }
        return true;
    }

    /** What is known of a KIND by itself. */
    private static final class Kinds {
        static String word(int kind) {
            switch (kind) {
                case FROM: return "from";
                case LIST: return "list";
                case MAP: return "map";
                case KEEP: return "keep";
                case WHILE: return "while";
                case ZIP: return "zip";
                case MERGE: return "merge";
                case TAKE: return "take";
                case DROP: return "drop";
                case SCAN: return "scan";
                case SIEVE: return "sieve";
                case CONS: return "cons";
                case CUT: return "cut";
                default: return "";
            }
        }

        /** What stands between the word and the rows: o OP, t TEST, n NUM, s second NUM, d NUMBER, c 1 .. 9, l list. */
        static String shape(int kind) {
            switch (kind) {
                case FROM: return "ns";
                case LIST: return "l";
                case MAP: return "on";
                case KEEP: return "tn";
                case WHILE: return "tn";
                case ZIP: return "o";
                case TAKE: return "d";
                case DROP: return "d";
                case SCAN: return "o";
                case CONS: return "n";
                case CUT: return "c";
                default: return "";
            }
        }

        static int rows(int kind) {
            if (kind == NAME || kind == FROM || kind == LIST) return 0;
            return kind == ZIP || kind == MERGE ? 2 : 1;
        }

        static boolean hasNumber(int kind) {
            switch (kind) {
                case FROM: case MAP: case KEEP: case WHILE: return true;
                case TAKE: case DROP: case CONS: case CUT: return true;
                default: return false;
            }
        }

        static boolean allows(int kind, int v) {
            if (kind == CUT) return v >= 1 && v <= MOST_CUT;
            return v >= 0 || kind != TAKE && kind != DROP;
        }
    }

    /** TEXTS of some STREAMS; PART k of a STREAM stands at 24 times the STREAM and k. */
    private static final class Texts {
        final int[] parts;
        final int[] kinds;
        final int[] ops;
        final int[] numbers;
        final int[] steps;
        final int[] sizes;
        final int[] amounts;
        final long[] entries;

        Texts(int streams) {
            int most = streams * MOST_PARTS;
            parts = new int[streams];
            kinds = new int[most];
            ops = new int[most];
            numbers = new int[most];
            steps = new int[most];
            sizes = new int[most];
            amounts = new int[most];
            entries = new long[most * MOST_NUMS];
        }

        void clearPart(int p, int kind) {
            kinds[p] = kind;
            ops[p] = 0;
            numbers[p] = 0;
            steps[p] = 0;
            amounts[p] = 0;
        }

        /** The TEXT of a STREAM is what stands there, so many PARTS. */
        void close(int stream, int many) {
            parts[stream] = many;
            int first = stream * MOST_PARTS;
            for (int p = first + many - 1; p >= first; p--) {
                int rows = Kinds.rows(kinds[p]);
                int size = 1;
                for (int r = 0; r < rows && p + size < first + many; r++) size += sizes[p + size];
                sizes[p] = size;
            }
        }

        int firstRow(int p) {
            return p + 1;
        }

        int secondRow(int p) {
            return p + 1 < sizes.length ? p + 1 + sizes[p + 1] : p + 1;
        }

        int filledStreams() {
            int many = 0;
            for (int s = 0; s < parts.length; s++) if (parts[s] > 0) many++;
            return many;
        }

        int allParts() {
            int many = 0;
            for (int s = 0; s < parts.length; s++) many += parts[s];
            return many;
        }

        void takeStream(Texts other, int from, int to) {
            parts[to] = other.parts[from];
            takeParts(other, from * MOST_PARTS, to * MOST_PARTS, parts[to]);
        }

        /** All STREAMS of another one that has just as many. */
        void takeAll(Texts other) {
            for (int s = 0; s < parts.length && s < other.parts.length; s++) takeStream(other, s, s);
        }

        private void takeParts(Texts other, int from, int to, int many) {
            System.arraycopy(other.kinds, from, kinds, to, many);
            System.arraycopy(other.ops, from, ops, to, many);
            System.arraycopy(other.numbers, from, numbers, to, many);
            System.arraycopy(other.steps, from, steps, to, many);
            System.arraycopy(other.sizes, from, sizes, to, many);
            System.arraycopy(other.amounts, from, amounts, to, many);
            System.arraycopy(other.entries, from * MOST_NUMS, entries, to * MOST_NUMS, many * MOST_NUMS);
        }
    }

    /** THE TAPE, and how a TEXT is read from it: it is split into TOKENS first, then these are read. */
    private static final class Reader {
        private static final int END = 0, WORD = 1, DIGITS = 2, SIGN = 3, ODD = 4, BLANK = 5;
        private static final String OPS = "+-*/%", TESTS = "<>=%", SIGNS = "+-*/%<>=,";

        final Texts read = new Texts(1);
        int size = 0;
        private final int[] tape = new int[MOST_BYTES];
        // Of each TOKEN, and of the END behind them: where it begins, its sort, the KIND, number or sign that it means.
        private final int[] begins = new int[MOST_BYTES + 1];
        private final int[] sorts = new int[MOST_BYTES + 1];
        private final int[] meanings = new int[MOST_BYTES + 1];
        private int next = 0;
        private int fault = NONE;

        int addByte(int letter) {
            if (size >= MOST_BYTES) return FULL;
            tape[size] = letter;
            size++;
            return size;
        }

        /** Empties THE TAPE: how many PARTS were read, or -100 less the place of the FAULT. */
        int readTape() {
            splitTape();
            next = 0;
            fault = NONE;
            int many = 0;
            int open = 1;
            while (many < MOST_PARTS && open > 0 && fault == NONE) {
                readPart(many);
                open += Kinds.rows(read.kinds[many]) - 1;
                many++;
            }
            if (open > 0 || sorts[next] != END) miss();
            size = 0;
            if (fault != NONE) return -100 - fault;
            read.close(0, many);
            return many;
        }

        private void miss() {
            if (fault == NONE) fault = begins[next];
        }

        private void readPart(int k) {
            int kind = sorts[next] == WORD ? meanings[next] : NONE;
            read.clearPart(k, Math.max(kind, NAME));
            if (kind < NAME) {
                miss();
                return;
            }
            if (kind == NAME) read.numbers[k] = tape[begins[next]] - 'a';
            next++;
            String shape = Kinds.shape(kind);
            for (int j = 0; j < shape.length() && fault == NONE; j++) readField(k, shape.charAt(j));
        }

        private void readField(int k, char field) {
            switch (field) {
                case 'o': read.ops[k] = readSign(OPS); break;
                case 't': read.ops[k] = readSign(TESTS); break;
                case 'n': read.numbers[k] = readNum(); break;
                case 's': read.steps[k] = readNum(); break;
                case 'd': read.numbers[k] = readNumber(0, MOST_NUM); break;
                case 'c': read.numbers[k] = readNumber(1, MOST_CUT); break;
                default: readNums(k);
            }
        }

        private void readNums(int k) {
            int n = 0;
            boolean more = true;
            while (more && n < MOST_NUMS && fault == NONE) {
                read.entries[k * MOST_NUMS + n] = readNum();
                n++;
                more = isSign(',');
                if (more && n < MOST_NUMS) next++;
            }
            read.amounts[k] = n;
            if (more) miss();
        }

        private int readNum() {
            boolean below = isSign('-');
            if (below) next++;
            int n = readNumber(0, MOST_NUM);
            return below ? -n : n;
        }

        private int readNumber(int least, int most) {
            int n = meanings[next];
            if (sorts[next] != DIGITS || n < least || n > most) {
                miss();
                return least;
            }
            next++;
            return n;
        }

        private int readSign(String allowed) {
            int sign = meanings[next];
            if (sorts[next] != SIGN || allowed.indexOf((char) sign) < 0) {
                miss();
                return 0;
            }
            next++;
            return sign;
        }

        private boolean isSign(char sign) {
            return sorts[next] == SIGN && meanings[next] == sign;
        }

        private void splitTape() {
            int tokens = 0;
            int behind = 0;
            for (int at = 0; at < size; at = behind) {
                int sort = sortOf(tape[at]);
                boolean goesOn = sort == WORD || sort == DIGITS;
                behind = at + 1;
                while (goesOn && behind < size && sortOf(tape[behind]) == sort) behind++;
                if (sort == BLANK) continue;
                begins[tokens] = at;
                sorts[tokens] = sort == DIGITS && behind - at > MOST_DIGITS ? ODD : sort;
                meanings[tokens] = meaningOf(sorts[tokens], at, behind);
                tokens++;
            }
            begins[tokens] = size;
            sorts[tokens] = END;
            meanings[tokens] = 0;
        }

        private static int sortOf(int b) {
            if (b == 32 || b == 10) return BLANK;
            if (b >= 'a' && b <= 'z') return WORD;
            if (b >= '0' && b <= '9') return DIGITS;
            return SIGNS.indexOf((char) b) >= 0 ? SIGN : ODD;
        }

        private int meaningOf(int sort, int at, int behind) {
            if (sort == WORD) return kindOfWord(at, behind);
            if (sort != DIGITS) return tape[at];
            int n = 0;
            for (int j = at; j < behind; j++) n = n * 10 + tape[j] - '0';
            return n;
        }

        private int kindOfWord(int at, int behind) {
            if (behind - at == 1) return tape[at] < 'a' + STREAMS ? NAME : NONE;
            for (int kind = NAME + 1; kind < KINDS; kind++) {
                if (isWord(Kinds.word(kind), at, behind)) return kind;
            }
            return NONE;
        }

        private boolean isWord(String word, int at, int behind) {
            if (word.length() != behind - at) return false;
            for (int j = 0; j < word.length(); j++) {
                if (tape[at + j] != word.charAt(j)) return false;
            }
            return true;
        }
    }

    /** A TEXT, PRINTED. */
    private static final class Printer {
        // 120 bytes of TOKENS, blanks between them, and what twist() puts in fit well.
        private static final int ROOM = 1024;

        final int[] bytes = new int[ROOM];
        int size = 0;

        void writeStream(Texts texts, int stream) {
            size = 0;
            int first = stream * MOST_PARTS;
            for (int p = first; p < first + texts.parts[stream]; p++) writePart(texts, p);
        }

        private void writePart(Texts texts, int p) {
            int kind = texts.kinds[p];
            if (kind == NAME) {
                writeSign('a' + texts.numbers[p]);
                return;
            }
            writeWord(Kinds.word(kind));
            String shape = Kinds.shape(kind);
            for (int j = 0; j < shape.length(); j++) writeField(texts, p, shape.charAt(j));
        }

        private void writeField(Texts texts, int p, char field) {
            switch (field) {
                case 'o': case 't': writeSign(texts.ops[p]); break;
                case 's': writeNum(texts.steps[p]); break;
                case 'l': writeNums(texts, p); break;
                default: writeNum(texts.numbers[p]);
            }
        }

        private void writeNums(Texts texts, int p) {
            for (int i = 0; i < texts.amounts[p]; i++) {
                if (i > 0) writeSign(',');
                writeNum(texts.entries[p * MOST_NUMS + i]);
            }
        }

        private void writeWord(String word) {
            writeBlank();
            for (int j = 0; j < word.length(); j++) writeByte(word.charAt(j));
        }

        private void writeSign(int sign) {
            writeBlank();
            writeByte(sign);
        }

        private void writeNum(long v) {
            writeBlank();
            if (v < 0) {
                writeByte('-');
                writeBlank();
            }
            // Digits are taken from below 0, since the least long has no counterpart above.
            long rest = v < 0 ? v : -v;
            long unit = 1;
            for (int digits = 1; digits < 19 && rest / unit <= -10; digits++) unit *= 10;
            for (; unit > 0; unit /= 10) writeByte('0' - (int) (rest / unit % 10));
        }

        private void writeBlank() {
            if (size > 0) writeByte(' ');
        }

        private void writeByte(int b) {
            if (size >= ROOM) return;
            bytes[size] = b;
            size++;
        }
    }

    /** All that is told of the PARTS of all STREAMS. */
    private static final class Told {
        // What a HEAD's mark is but for a number (THERE) and a FAULT.
        static final int UNTOLD = 0, TELLING = 2;

        final int[] places;
        final int[] heads;
        // THERE: it goes on; ENDED; or its FAULT.
        final int[] goings;
        final boolean[] telling;
        // Where KEEP, SIEVE, MERGE go on in S, and MERGE in T.
        final int[] nexts;
        final int[] seconds;
        // Of each PLACE: how far its HEAD is told, its number, what was kept or taken for it.
        final byte[] marks;
        final long[] numbers;
        final byte[] kept;
        // PARTS that were ever asked to tell: untelling and copying look at no others.
        private final boolean[] met;
        private final int[] meetings;
        private int meetingsMade = 0;

        Told(int parts) {
            places = new int[parts];
            heads = new int[parts];
            goings = new int[parts];
            telling = new boolean[parts];
            nexts = new int[parts];
            seconds = new int[parts];
            marks = new byte[parts * PLACES];
            numbers = new long[parts * PLACES];
            kept = new byte[parts * PLACES];
            met = new boolean[parts];
            meetings = new int[parts];
            for (int p = 0; p < parts; p++) goings[p] = THERE;
        }

        void meet(int p) {
            if (met[p] || meetingsMade >= meetings.length) return;
            met[p] = true;
            meetings[meetingsMade] = p;
            meetingsMade++;
        }

        void untell() {
            for (int m = 0; m < meetingsMade; m++) untellPart(meetings[m]);
            meetingsMade = 0;
        }

        private void untellPart(int p) {
            int first = p * PLACES;
            for (int i = 0; i < places[p]; i++) marks[first + i] = UNTOLD;
            places[p] = 0;
            heads[p] = 0;
            goings[p] = THERE;
            telling[p] = false;
            nexts[p] = 0;
            seconds[p] = 0;
            met[p] = false;
        }

        /** All that is told in another one of the same size. */
        void takeAll(Told other) {
            untell();
            for (int m = 0; m < other.meetingsMade; m++) takePart(other, other.meetings[m]);
        }

        private void takePart(Told other, int p) {
            int many = other.places[p];
            int first = p * PLACES;
            meet(p);
            places[p] = many;
            heads[p] = other.heads[p];
            goings[p] = other.goings[p];
            nexts[p] = other.nexts[p];
            seconds[p] = other.seconds[p];
            System.arraycopy(other.marks, first, marks, first, many);
            System.arraycopy(other.numbers, first, numbers, first, many);
            System.arraycopy(other.kept, first, kept, first, many);
        }

        int allPlaces() {
            int many = 0;
            for (int m = 0; m < meetingsMade; m++) many += places[meetings[m]];
            return many;
        }

        int allHeads() {
            int many = 0;
            for (int m = 0; m < meetingsMade; m++) many += heads[meetings[m]];
            return many;
        }
    }

    /**
     * Tells PLACES and HEADS. What is asked is answered THERE, ENDED, a FAULT below -20, or DEAR.
     * A level of asking is a RUN and takes two methods, so the LIMIT keeps open calls near 200.
     */
    private static final class Teller {
        private final Texts texts;
        private Told told;
        private int most = 0;
        int runs = 0;
        // The number of the HEAD that was asked last, or the sum that was asked.
        long value = 0;

        Teller(Texts texts, Told told) {
            this.texts = texts;
            this.told = told;
        }

        void begin(Told where, int limit) {
            told = where;
            most = limit;
            runs = 0;
        }

        int isThere(int stream, int i) {
            return askPlace(stream * MOST_PARTS, i);
        }

        int outcome(int stream, int i) {
            int answer = askPlace(stream * MOST_PARTS, i);
            return answer == THERE ? askHead(stream * MOST_PARTS, i) : answer;
        }

        private int askPlace(int part, int i) {
            int p = behindNames(part);
            if (p < 0) return p;
            if (i < 0 || i >= PLACES) return TOO_FAR;
            for (int n = told.places[p]; n <= i && told.goings[p] == THERE; n++) {
                if (told.telling[p]) return RING;
                if (!beginsRun()) return DEAR;
                told.meet(p);
                told.telling[p] = true;
                int answer;
                if (seeks(p)) answer = seekPlace(p, n);
                else if (texts.kinds[p] == MERGE) answer = mergePlace(p, n);
                else answer = tellPlace(p, n);
                told.telling[p] = false;
                if (answer == DEAR) return DEAR;
                if (answer == THERE) told.places[p]++;
                else told.goings[p] = answer;
            }
            return i < told.places[p] ? THERE : told.goings[p];
        }

        private int askHead(int part, int i) {
            int p = behindNames(part);
            if (p < 0) return p;
            if (i < 0 || i >= told.places[p]) return TOO_FAR;
            int at = p * PLACES + i;
            if (told.marks[at] == Told.TELLING) return RING;
            if (told.marks[at] == Told.UNTOLD) {
                if (!beginsRun()) return DEAR;
                told.marks[at] = Told.TELLING;
                int answer = tellHead(p, i);
                told.marks[at] = Told.UNTOLD;
                if (answer == DEAR) return DEAR;
                told.marks[at] = (byte) answer;
                told.numbers[at] = value;
                told.heads[p]++;
            }
            value = told.numbers[at];
            return told.marks[at];
        }

        private boolean beginsRun() {
            if (runs >= most) return false;
            runs++;
            return true;
        }

        private boolean seeks(int p) {
            return texts.kinds[p] == KEEP || texts.kinds[p] == SIEVE;
        }

        /** The PART that is asked where a NAME is: or the FAULT, if NAMES lead nowhere or round. */
        private int behindNames(int part) {
            int p = part;
            for (int names = 0; names <= STREAMS; names++) {
                if (p < 0 || p >= texts.kinds.length) return NO_TEXT;
                if (texts.kinds[p] != NAME) return p;
                int stream = texts.numbers[p];
                if (stream < 0 || stream >= STREAMS || texts.parts[stream] == 0) return NO_TEXT;
                p = stream * MOST_PARTS;
            }
            return RING;
        }

        private int tellPlace(int p, int i) {
            int s = texts.firstRow(p);
            int number = texts.numbers[p];
            int answer;
            switch (texts.kinds[p]) {
                case FROM: return THERE;
                case LIST: return i < texts.amounts[p] ? THERE : ENDED;
                case ZIP:
                    answer = askPlace(s, i);
                    return answer == THERE ? askPlace(texts.secondRow(p), i) : answer;
                case TAKE: return i < number ? askPlace(s, i) : ENDED;
                case DROP: return askPlace(s, i + number);
                case CONS: return i == 0 ? THERE : askPlace(s, i - 1);
                case CUT: return askPlace(s, number * (i + 1) - 1);
                case WHILE:
                    answer = askPlace(s, i);
                    if (answer == THERE) answer = askHead(s, i);
                    return answer == THERE ? passes(texts.ops[p], value, number) : answer;
                default: return askPlace(s, i);
            }
        }

        private int seekPlace(int p, int i) {
            int s = texts.firstRow(p);
            // PLACE 64 is asked, too: its FAULT is what ends a search in vain.
            for (int j = told.nexts[p]; j <= PLACES; j++) {
                int answer = askPlace(s, j);
                if (answer == THERE) answer = askHead(s, j);
                if (answer != THERE) return answer;
                if (texts.kinds[p] == KEEP) answer = passes(texts.ops[p], value, texts.numbers[p]);
                else answer = passesOwnHeads(p, i, value);
                if (answer == THERE) {
                    told.kept[p * PLACES + i] = (byte) j;
                    told.nexts[p] = j + 1;
                }
                if (answer != ENDED) return answer;
            }
            return TOO_FAR;
        }

        /** Whether a number passes a SIEVE that has PLACES 0 to i - 1: THERE, or ENDED if it doesn't. */
        private int passesOwnHeads(int p, int i, long number) {
            for (int j = 0; j < i; j++) {
                int answer = askHead(p, j);
                if (answer != THERE) return answer;
                if (value == 0) return BY_ZERO;
                if (number % value == 0) return ENDED;
            }
            return THERE;
        }

        private int mergePlace(int p, int i) {
            int s = texts.firstRow(p);
            int t = texts.secondRow(p);
            int x = told.nexts[p];
            int y = told.seconds[p];
            int one = askPlace(s, x);
            if (one != THERE && one != ENDED) return one;
            int two = askPlace(t, y);
            if (two != THERE && two != ENDED) return two;
            if (one == ENDED && two == ENDED) return ENDED;
            boolean first = two == ENDED;
            boolean second = one == ENDED;
            if (!first && !second) {
                int answer = askHead(s, x);
                if (answer != THERE) return answer;
                long number = value;
                answer = askHead(t, y);
                if (answer != THERE) return answer;
                first = number <= value;
                second = value <= number;
            }
            told.kept[p * PLACES + i] = (byte) (first ? x : PLACES + y);
            if (first) told.nexts[p] = x + 1;
            if (second) told.seconds[p] = y + 1;
            return THERE;
        }

        private int tellHead(int p, int i) {
            int s = texts.firstRow(p);
            int number = texts.numbers[p];
            int kept = told.kept[p * PLACES + i];
            int answer;
            switch (texts.kinds[p]) {
                case FROM: return tellNumber(number + (long) i * texts.steps[p]);
                case LIST: return tellNumber(i < MOST_NUMS ? texts.entries[p * MOST_NUMS + i] : 0);
                case MAP:
                    answer = askHead(s, i);
                    return answer == THERE ? combine(texts.ops[p], value, number) : answer;
                case ZIP: {
                    answer = askHead(s, i);
                    if (answer != THERE) return answer;
                    long one = value;
                    answer = askHead(texts.secondRow(p), i);
                    return answer == THERE ? combine(texts.ops[p], one, value) : answer;
                }
                case SCAN: {
                    if (i == 0) return askHead(s, 0);
                    answer = askHead(p, i - 1);
                    if (answer != THERE) return answer;
                    long own = value;
                    answer = askHead(s, i);
                    return answer == THERE ? combine(texts.ops[p], own, value) : answer;
                }
                case DROP: return askHead(s, i + number);
                case CONS: return i == 0 ? tellNumber(number) : askHead(s, i - 1);
                case KEEP: case SIEVE: return askHead(s, kept);
                case MERGE: return kept < PLACES ? askHead(s, kept) : askHead(texts.secondRow(p), kept - PLACES);
                case CUT: {
                    long together = 0;
                    for (int j = 0; j < number; j++) {
                        answer = askHead(s, number * i + j);
                        if (answer != THERE) return answer;
                        together += value;
                    }
                    return tellNumber(together);
                }
                default: return askHead(s, i);
            }
        }

        private int tellNumber(long number) {
            value = number;
            return THERE;
        }

        private int combine(int op, long one, long two) {
            if ((op == '/' || op == '%') && two == 0) return BY_ZERO;
            switch (op) {
                case '+': value = one + two; break;
                case '-': value = one - two; break;
                case '*': value = one * two; break;
                case '/': value = one / two; break;
                default: value = one % two;
            }
            return THERE;
        }

        /** THERE if it passes, ENDED if it doesn't. */
        private static int passes(int test, long number, int num) {
            boolean so;
            switch (test) {
                case '<': so = number < num; break;
                case '>': so = number > num; break;
                case '=': so = number == num; break;
                default:
                    if (num == 0) return BY_ZERO;
                    so = number % num == 0;
            }
            return so ? THERE : ENDED;
        }

        /** The SUM is the value then, if THERE is answered. */
        int addUp(int stream, int n) {
            long together = 0;
            int answer = THERE;
            for (int i = 0; i < n && answer == THERE; i++) {
                answer = outcome(stream, i);
                if (answer == THERE) together += value;
            }
            return answer == ENDED || answer == THERE ? tellNumber(together) : answer;
        }

        int placeOf(int stream, long number, int n) {
            for (int i = 0; i < n; i++) {
                int answer = outcome(stream, i);
                if (answer == DEAR) return DEAR;
                if (answer != THERE) return NONE;
                if (value == number) return i;
            }
            return NONE;
        }

        int firstUnlike(int stream, int other, int n) {
            for (int i = 0; i < n; i++) {
                int one = outcome(stream, i);
                if (one == DEAR) return DEAR;
                long number = value;
                int two = outcome(other, i);
                if (two == DEAR) return DEAR;
                if (one != two || one == THERE && number != value) return i;
                // A HEAD's FAULT ends it, too: behind a PART that is over for good nothing could differ anyway.
                if (one != THERE) return NONE;
            }
            return NONE;
        }

        int rising(int stream) {
            long ahead = 0;
            for (int i = 0; i < PLACES; i++) {
                int answer = outcome(stream, i);
                if (answer == DEAR) return DEAR;
                if (answer != THERE || i > 0 && value <= ahead) return i;
                ahead = value;
            }
            return PLACES;
        }

        /** Lays numbers of PLACES 0 .. n - 1 into a row: how many there are. */
        int gather(int stream, int n, long[] row) {
            for (int i = 0; i < n && i < row.length; i++) {
                int answer = outcome(stream, i);
                if (answer == DEAR) return DEAR;
                if (answer != THERE) return i;
                row[i] = value;
            }
            return n;
        }
    }

    /** SHEETS 0 .. 3: what is put into one is cut to its sort at once. */
    private static final class Sheets {
        static final int NO_SORT = -1;

        final int[] sorts = new int[SHEETS];
        final int[] sizes = new int[SHEETS];
        private final long[] items = new long[SHEETS * MOST_ITEMS];

        Sheets() {
            for (int sheet = 0; sheet < SHEETS; sheet++) sorts[sheet] = NO_SORT;
        }

        boolean isMissing(int sheet) {
            return sorts[sheet] == NO_SORT;
        }

        /** Whether a SHEET has n items from one on. */
        boolean spans(int sheet, int from, int n) {
            return from >= 0 && n >= 0 && from <= sizes[sheet] && n <= sizes[sheet] - from;
        }

        void renew(int sheet, int sort, int n) {
            sorts[sheet] = sort;
            sizes[sheet] = n;
            for (int i = 0; i < n; i++) items[sheet * MOST_ITEMS + i] = 0;
        }

        void write(int sheet, int i, long v) {
            long cut = v;
            if (sorts[sheet] == INTS) cut = (int) v;
            if (sorts[sheet] == BYTES) cut = (byte) v;
            items[sheet * MOST_ITEMS + i] = cut;
        }

        long read(int sheet, int i) {
            return items[sheet * MOST_ITEMS + i];
        }

        void move(int sheet, int i, int other, int j, int n) {
            System.arraycopy(items, sheet * MOST_ITEMS + i, items, other * MOST_ITEMS + j, n);
        }
    }
}
