/** Promises 1 to 10: how texts are read, looked at, changed and printed. */
public final class TextsTest {
    private static final Checks C = new Checks();
    private static final long NO = LateRows.NO;

    public static void main(String[] args) {
        newObject();
        feed();
        text();
        faults();
        empty();
        part();
        numberAndEntry();
        twist();
        taken();
        print();
        C.end();
    }

    private static void newObject() {
        LateRows x = new LateRows();
        for (int what = 0; what <= 5; what++) C.due("1 count(" + what + ")", x.count(what), 0);
        C.due("1 count(6)", x.count(6), 99);
        for (int s = 0; s < 8; s++) {
            C.due("1 empty(" + s + ")", x.empty(s), 0);
            C.due("1 is(" + s + ", 0)", x.is(s, 0), -3);
        }
        for (int s = 0; s < 4; s++) C.due("1 item", x.item(s, 0), NO);
        C.due("1 back()", x.back(), -3);
    }

    private static void feed() {
        LateRows x = new LateRows();
        C.due("2 feed(-1)", x.feed(-1), -2);
        C.due("2 feed(256)", x.feed(256), -2);
        C.due("2 count(5)", x.count(5), 0);
        C.due("2 feed(0)", x.feed(0), 1);
        C.due("2 feed(255)", x.feed(255), 2);
        for (int i = 3; i <= 120; i++) C.due("2 feed(32)", x.feed(32), i);
        C.due("2 feed when full", x.feed(32), -4);
        C.due("2 feed bad when full", x.feed(256), -2);
        C.due("2 count(5) when full", x.count(5), 120);
        C.due("2 text of odd bytes", x.text(0), -100);
        C.due("2 feed after text", x.feed(97), 1);
    }

    private static void text() {
        LateRows x = new LateRows();
        x.feed('a');
        C.due("3 text(-1)", x.text(-1), -2);
        C.due("3 text(8)", x.text(8), -2);
        C.due("3 the tape stays", x.count(5), 1);
        C.due("3 text(7)", x.text(7), 1);
        C.due("3 the tape is empty", x.count(5), 0);
        C.due("3 one stream", x.count(0), 1);
        dueParts("from 1 2", 1);
        dueParts(" \n from\n1 2 \n", 1);
        dueParts("from - 1 -2", 1);
        dueParts("list 1", 1);
        dueParts("list 1,2,3,4,5,6,7,8", 1);
        dueParts("list -1 , - 2", 1);
        dueParts("map+1a", 2);
        dueParts("map - -1 h", 2);
        dueParts("keep<1a", 2);
        dueParts("while%3a", 2);
        dueParts("zip*a b", 3);
        dueParts("zip+list 1,2 list 3", 3);
        dueParts("merge a merge b c", 5);
        dueParts("take 0 a", 2);
        dueParts("take9999a", 2);
        dueParts("drop 0007 a", 2);
        dueParts("scan/a", 2);
        dueParts("sieve a", 2);
        dueParts("cons-5a", 2);
        dueParts("cut 1 a", 2);
        dueParts("cut 9 a", 2);
        dueParts("cut1".repeat(23) + "a", 24);
        dueParts("cut1".repeat(29) + "from", -100 - 96);
        C.due("3 a new text untells", untoldBy(0), 0);
        C.due("3 a text with a fault untells nothing", untoldBy(1), 4);
    }

    /** How much is told after a TEXT was made (0), or wasn't, since it has a FAULT (1). */
    private static int untoldBy(int how) {
        LateRows x = Checks.with("from 1 1");
        x.head(0, 2);
        Checks.lay(x, how == 0 ? 3 : 0, how == 0 ? "a" : "from 1");
        C.due("3 stream 0 keeps its text", x.part(0, 0, 0), 1);
        return x.count(2) + x.count(3);
    }

    private static void dueParts(String text, int want) {
        LateRows x = new LateRows();
        C.due("3 text '" + text + "'", Checks.lay(x, 3, text), want);
        C.due("3 count(1) of '" + text + "'", x.count(1), Math.max(want, 0));
    }

    private static void faults() {
        dueFault("", 0);
        dueFault("   ", 3);
        dueFault("from 1 ", 7);
        dueFault("from", 4);
        dueFault("map", 3);
        dueFault("zip + a", 7);
        dueFault("list 1,", 7);
        dueFault("list 1,2 3", 9);
        dueFault("list", 4);
        dueFault("list 1,2,3,4,5,6,7,8,", 20);
        dueFault("list 1,2,3,4,5,6,7,8,9", 20);
        dueFault("i", 0);
        dueFault("ab", 0);
        dueFault("froma", 0);
        dueFault("fro", 0);
        dueFault("A", 0);
        dueFault("1", 0);
        dueFault("+", 0);
        dueFault(";", 0);
        dueFault("a;", 1);
        dueFault("a 1", 2);
        dueFault("a\tb", 1);
        dueFault("map < 1 a", 4);
        dueFault("keep + 1 a", 5);
        dueFault("keep - 1 a", 5);
        dueFault("while , 1 a", 6);
        dueFault("scan = a", 5);
        dueFault("zip % a 5", 8);
        dueFault("from 12345 1", 5);
        dueFault("from 1 00001", 7);
        dueFault("from - - 1 1", 7);
        dueFault("from a 1", 5);
        dueFault("take -1 a", 5);
        dueFault("drop - 1 a", 5);
        dueFault("cut 0 a", 4);
        dueFault("cut 10 a", 4);
        dueFault("cut -1 a", 4);
        dueFault("cons + 1 a", 5);
        dueFault("sieve from 1 1 a", 15);
        dueFault("sieve sieve", 11);
        dueFault("cut1".repeat(24) + "a", 96);
        dueFault("cut1".repeat(24), 96);
        dueFault("cut1".repeat(24) + " ;", 97);
        dueFault("cut1".repeat(23) + "a a", 94);
    }

    private static void dueFault(String text, int place) {
        LateRows x = Checks.with("from 7 7");
        C.due("3 text '" + text + "'", Checks.lay(x, 0, text), -100 - place);
        C.due("3 the tape is empty after '" + text + "'", x.count(5), 0);
        C.due("3 the old text stays after '" + text + "'", x.number(0, 0), 7);
    }

    private static void empty() {
        LateRows x = Checks.with("map + 1 b", "from 1 1");
        x.head(0, 1);
        C.due("4 empty(-1)", x.empty(-1), -2);
        C.due("4 empty(8)", x.empty(8), -2);
        C.due("4 told stays", x.count(2), 4);
        C.due("4 empty(0)", x.empty(0), 2);
        C.due("4 all is untold", x.count(2) + x.count(3), 0);
        C.due("4 one is left", x.count(0), 1);
        C.due("4 it is empty", x.is(0, 0), -3);
        x.head(1, 1);
        C.due("4 again", x.empty(0), 0);
        C.due("4 all is untold by that, too", x.count(2), 0);
    }

    private static void part() {
        LateRows x = Checks.with("zip + map * 2 b list 1 , - 2 , 3", "from 1 1");
        C.due("5 kind", x.part(0, 0, 0), 6);
        C.due("5 kind", x.part(0, 1, 0), 3);
        C.due("5 kind", x.part(0, 2, 0), 0);
        C.due("5 kind", x.part(0, 3, 0), 2);
        C.due("5 size", x.part(0, 0, 1), 4);
        C.due("5 size", x.part(0, 1, 1), 2);
        C.due("5 size", x.part(0, 2, 1), 1);
        C.due("5 size", x.part(0, 3, 1), 1);
        C.due("5 list", x.part(0, 3, 5), 3);
        C.due("5 no list", x.part(0, 0, 5), -1);
        C.due("5 goes on", x.part(0, 0, 4), 1);
        x.is(0, 3);
        C.due("5 places of zip", x.part(0, 0, 2), 3);
        C.due("5 places of map", x.part(0, 1, 2), 4);
        C.due("5 places of a name", x.part(0, 2, 2), 0);
        C.due("5 places of list", x.part(0, 3, 2), 3);
        C.due("5 ended", x.part(0, 0, 4), 0);
        C.due("5 list ended", x.part(0, 3, 4), 0);
        C.due("5 map goes on", x.part(0, 1, 4), 1);
        C.due("5 heads", x.part(0, 0, 3), 0);
        x.is(0, 1);
        C.due("5 heads", x.part(0, 0, 3), 1);
        Checks.lay(x, 2, "map / 0 from 1 1");
        Checks.lay(x, 3, "keep % 0 from 1 1");
        x.is(2, 0);
        x.is(3, 0);
        C.due("5 a fault is a told head", x.part(2, 0, 3), 1);
        C.due("5 a head's fault ends nothing", x.part(2, 0, 4), 1);
        C.due("5 failed", x.part(3, 0, 4), -22);
        C.due("5 failed at 0", x.part(3, 0, 2), 0);
        C.due("5 BAD", x.part(8, 0, 0), -2);
        C.due("5 BAD", x.part(-1, 0, 0), -2);
        C.due("5 BAD", x.part(0, 0, 6), -2);
        C.due("5 BAD", x.part(7, 0, -1), -2);
        C.due("5 STATE", x.part(7, 0, 0), -3);
        C.due("5 -12", x.part(0, 4, 0), -12);
        C.due("5 -12", x.part(0, -1, 0), -12);
        kinds();
    }

    private static void kinds() {
        String[] texts = {"a", "from 1 1", "list 1", "map + 1 a", "keep < 1 a", "while < 1 a", "zip + a a",
            "merge a a", "take 1 a", "drop 1 a", "scan + a", "sieve a", "cons 1 a", "cut 1 a"};
        for (int kind = 0; kind < texts.length; kind++) {
            C.due("5 kind of " + texts[kind], Checks.with(texts[kind]).part(0, 0, 0), kind);
        }
    }

    private static void numberAndEntry() {
        LateRows x = Checks.with("cons - 7 merge zip + from - 3 4 list 5 , - 6 take 8 sieve cut 9 keep = 10 a");
        long[] numbers = {-7, NO, NO, -3, NO, 8, NO, 9, 10, NO};
        for (int k = 0; k < numbers.length; k++) C.due("6 number " + k, x.number(0, k), numbers[k]);
        C.due("6 no such part", x.number(0, 10), NO);
        C.due("6 no such part", x.number(0, -1), NO);
        C.due("6 no such stream", x.number(8, 0), NO);
        C.due("6 no such stream", x.number(-1, 0), NO);
        C.due("6 empty", x.number(1, 0), NO);
        C.due("6 scan", Checks.with("scan + a").number(0, 0), NO);
        C.due("6 while", Checks.with("while < - 9999 a").number(0, 0), -9999);
        C.due("6 drop", Checks.with("drop 9999 a").number(0, 0), 9999);
        C.due("6 map", Checks.with("map * - 0 a").number(0, 0), 0);
        C.due("7 entry", x.entry(0, 4, 0), 5);
        C.due("7 entry", x.entry(0, 4, 1), -6);
        C.due("7 no such number", x.entry(0, 4, 2), NO);
        C.due("7 no such number", x.entry(0, 4, -1), NO);
        C.due("7 another kind", x.entry(0, 3, 0), NO);
        C.due("7 no such part", x.entry(0, 10, 0), NO);
        C.due("7 no such part", x.entry(0, -1, 0), NO);
        C.due("7 no such stream", x.entry(8, 4, 0), NO);
        C.due("7 empty", x.entry(1, 0, 0), NO);
    }

    private static void twist() {
        LateRows x = Checks.with("cons 1 merge take 2 cut 3 a drop 4 from 5 6");
        x.head(0, 0);
        C.due("8 BAD", x.twist(8, 0, 1), -2);
        C.due("8 BAD", x.twist(7, 0, 10000), -2);
        C.due("8 BAD", x.twist(7, 0, -10000), -2);
        C.due("8 STATE", x.twist(7, 0, 1), -3);
        C.due("8 -12", x.twist(0, 7, 1), -12);
        C.due("8 -12", x.twist(0, -1, 1), -12);
        C.due("8 -13", x.twist(0, 1, 1), -13);
        C.due("8 -13", x.twist(0, 4, 1), -13);
        C.due("8 BAD take", x.twist(0, 2, -1), -2);
        C.due("8 BAD drop", x.twist(0, 5, -1), -2);
        C.due("8 BAD cut", x.twist(0, 3, 0), -2);
        C.due("8 BAD cut", x.twist(0, 3, 10), -2);
        C.due("8 told stays", x.count(2), 1);
        C.due("8 take 0", x.twist(0, 2, 0), 1);
        C.due("8 untold", x.count(2) + x.count(3), 0);
        C.due("8 drop 9999", x.twist(0, 5, 9999), 1);
        C.due("8 cut 9", x.twist(0, 3, 9), 1);
        C.due("8 from", x.twist(0, 6, -9999), 1);
        C.due("8 cons", x.twist(0, 0, -1), 1);
        C.due("8 number", x.number(0, 6), -9999);
        C.dueText("8 printed", Checks.printed(x, 0), "cons - 1 merge take 0 cut 9 a drop 9999 from - 9999 6");
        C.due("8 head", x.head(0, 0), -1);
    }

    private static void taken() {
        LateRows x = Checks.with("zip + map + 1 from 1 1 merge list 1 sieve c");
        int[] groups = {2, 1, 0, 2, 0, 1, 0};
        int[] inside = {6, 1, 0, 3, 0, 1, 0};
        for (int k = 0; k < groups.length; k++) {
            for (int g = 0; g <= 2; g++) C.due("9 taken " + k + " for " + g, x.taken(0, k, g), g == groups[k] ? inside[k] : -13);
        }
        C.due("9 BAD", x.taken(-1, 0, 2), -2);
        C.due("9 BAD", x.taken(1, 0, 3), -2);
        C.due("9 BAD", x.taken(1, 0, -1), -2);
        C.due("9 STATE", x.taken(1, 0, 2), -3);
        C.due("9 -12", x.taken(0, 7, 2), -12);
        C.due("9 -12", x.taken(0, -1, 2), -12);
    }

    private static void print() {
        duePrinted("\n zip+map - -1a list 1,-2,\n3 ", "zip + map - - 1 a list 1 , - 2 , 3");
        duePrinted("from-1-2", "from - 1 - 2");
        duePrinted("merge while<3 a keep%2b", "merge while < 3 a keep % 2 b");
        duePrinted("take 9 drop 8 cut 7 scan*sieve cons-9999 h", "take 9 drop 8 cut 7 scan * sieve cons - 9999 h");
        duePrinted("from 0 1000", "from 0 1000");
        duePrinted("from 007 -0", "from 7 0");
        duePrinted("map+1".repeat(23) + "a", "map + 1 ".repeat(23) + "a");
        LateRows x = Checks.with("from 1 1");
        C.due("10 size", x.print(0, -1), 8);
        C.due("10 first", x.print(0, 0), 'f');
        C.due("10 last", x.print(0, 7), '1');
        C.due("10 -12", x.print(0, 8), -12);
        C.due("10 -12", x.print(0, -2), -12);
        C.due("10 BAD", x.print(8, -1), -2);
        C.due("10 BAD", x.print(-1, -1), -2);
        C.due("10 STATE", x.print(1, 99), -3);
    }

    private static void duePrinted(String text, String want) {
        C.dueText("10 '" + text + "' printed", Checks.printed(Checks.with(text), 0), want);
    }
}
