/** Promises 26 to 30: the host's sheets. */
public final class SheetsTest {
    private static final Checks C = new Checks();
    private static final long NO = LateRows.NO;

    public static void main(String[] args) {
        sheet();
        putAndItem();
        copy();
        lay();
        layRefused();
        C.end();
    }

    private static void sheet() {
        LateRows x = new LateRows();
        C.due("26 BAD", x.sheet(4, 0, 1), -2);
        C.due("26 BAD", x.sheet(-1, 0, 1), -2);
        C.due("26 BAD", x.sheet(0, 3, 1), -2);
        C.due("26 BAD", x.sheet(0, -2, -1), -2);
        C.due("26 BAD", x.sheet(0, 0, 41), -2);
        C.due("26 -14", x.sheet(0, 0, -1), -14);
        C.due("26 -14", x.sheet(0, 2, Integer.MIN_VALUE), -14);
        C.due("26 none", x.item(0, 0), NO);
        C.due("26 made", x.sheet(0, 0, 40), 1);
        for (int i = 0; i < 40; i++) C.due("26 item " + i, x.item(0, i), 0);
        C.due("26 no such item", x.item(0, 40), NO);
        x.put(0, 3, 9);
        C.due("26 anew", x.sheet(0, 1, 4), 1);
        C.due("26 all 0", x.item(0, 3), 0);
        C.due("26 shorter", x.item(0, 4), NO);
        C.due("26 of none", x.sheet(0, 2, 0), 1);
        C.due("26 not missing", x.put(0, 0, 1), -12);
        C.due("26 missing", x.sheet(0, -1, -99), 1);
        C.due("26 missing", x.put(0, 0, 1), -11);
        C.due("26 missing again", x.sheet(0, -1, 99), 1);
    }

    private static void putAndItem() {
        LateRows x = new LateRows();
        for (int sort = 0; sort < 3; sort++) x.sheet(sort, sort, 2);
        long[] values = {0, 1, -1, 127, 128, -129, 255, 256, 1L << 31, (1L << 32) + 5, Long.MIN_VALUE, Long.MAX_VALUE, NO};
        for (long v : values) {
            for (int sort = 0; sort < 3; sort++) {
                C.due("27 put " + v, x.put(sort, 1, v), 1);
                C.due("28 item " + v + " of sort " + sort, x.item(sort, 1), sort == 0 ? v : sort == 1 ? (int) v : (byte) v);
                C.due("28 the other item", x.item(sort, 0), 0);
            }
        }
        C.due("27 BAD", x.put(4, 0, 1), -2);
        C.due("27 BAD", x.put(-1, 0, 1), -2);
        C.due("27 -11", x.put(3, -1, 1), -11);
        C.due("27 -12", x.put(0, 2, 1), -12);
        C.due("27 -12", x.put(0, -1, 1), -12);
        C.due("28 no such sheet", x.item(4, 0), NO);
        C.due("28 no such sheet", x.item(-1, 0), NO);
        C.due("28 missing", x.item(3, 0), NO);
        C.due("28 no such item", x.item(0, 2), NO);
        C.due("28 no such item", x.item(0, -1), NO);
    }

    private static void dueItems(LateRows x, int sheet, long... items) {
        for (int i = 0; i < items.length; i++) C.due("29 item " + i, x.item(sheet, i), items[i]);
        C.due("29 no more", x.item(sheet, items.length), NO);
    }

    private static void copy() {
        LateRows x = new LateRows();
        x.sheet(0, 0, 5);
        x.sheet(1, 0, 3);
        x.sheet(2, 1, 3);
        for (int i = 0; i < 5; i++) x.put(0, i, i + 1);
        C.due("29 to another", x.copy(0, 3, 1, 1, 2), 2);
        dueItems(x, 1, 0, 4, 5);
        C.due("29 up in itself", x.copy(0, 0, 0, 1, 4), 4);
        dueItems(x, 0, 1, 1, 2, 3, 4);
        C.due("29 down in itself", x.copy(0, 2, 0, 1, 3), 3);
        dueItems(x, 0, 1, 2, 3, 4, 4);
        C.due("29 none", x.copy(0, 5, 1, 3, 0), 0);
        C.due("29 BAD", x.copy(4, 0, 0, 0, 0), -2);
        C.due("29 BAD", x.copy(0, 0, -1, 0, 0), -2);
        C.due("29 -11", x.copy(3, 0, 0, 0, 0), -11);
        C.due("29 -11", x.copy(0, 0, 3, -1, 0), -11);
        C.due("29 -13", x.copy(0, -1, 2, 0, 0), -13);
        C.due("29 -12", x.copy(0, 0, 1, 0, -1), -12);
        C.due("29 -12", x.copy(0, 0, 1, 0, 4), -12);
        C.due("29 -12", x.copy(1, 0, 0, 0, 4), -12);
        C.due("29 -12", x.copy(0, -1, 1, 0, 1), -12);
        C.due("29 -12", x.copy(0, 0, 1, -1, 1), -12);
        C.due("29 -12", x.copy(0, 6, 1, 0, 0), -12);
        C.due("29 -12", x.copy(0, 0, 1, 4, 0), -12);
        C.due("29 -12", x.copy(0, Integer.MAX_VALUE, 1, 0, 1), -12);
        C.due("29 -12", x.copy(0, 1, 1, 1, Integer.MAX_VALUE), -12);
        dueItems(x, 0, 1, 2, 3, 4, 4);
        dueItems(x, 1, 0, 4, 5);
    }

    private static void lay() {
        LateRows x = Checks.with("from 1 1", "map + 1 a");
        x.head(1, 1);
        x.sheet(0, 0, 9);
        long[] values = {0, -1, Long.MAX_VALUE, Long.MIN_VALUE, 10, 1000000007L, 5, 9, -10};
        for (int i = 0; i < values.length; i++) x.put(0, i, values[i]);
        C.due("30 eight", x.lay(0, 0, 0, 1, 8), 8);
        C.due("30 untold", x.count(2) + x.count(3), 0);
        C.due("30 list", x.part(0, 0, 0), 2);
        C.due("30 one part", x.part(0, 0, 1), 1);
        C.due("30 numbers", x.part(0, 0, 5), 8);
        C.due("30 parts of all", x.count(1), 3);
        for (int i = 0; i < 8; i++) C.due("30 entry " + i, x.entry(0, 0, i), values[i + 1]);
        for (int i = 0; i < 8; i++) C.due("30 head " + i, x.head(0, i), values[i + 1]);
        C.due("30 wrapped", x.head(1, 1), Long.MIN_VALUE);
        C.due("30 ended", x.is(0, 8), 0);
        C.dueText("30 printed", Checks.printed(x, 0),
            "list - 1 , 9223372036854775807 , - 9223372036854775808 , 10 , 1000000007 , 5 , 9 , - 10");
        C.due("30 one of an empty stream", x.lay(0, 7, 0, 0, 1), 1);
        C.dueText("30 printed", Checks.printed(x, 7), "list 0");
        x.sheet(1, 2, 2);
        x.put(1, 1, 200);
        C.due("30 bytes", x.lay(1, 0, 2, 1, 1), 1);
        C.dueText("30 printed", Checks.printed(x, 0), "list - 56");
        x.put(1, 1, 3);
        C.due("30 the text stays", x.head(0, 0), -56);
        C.due("30 no such number", x.entry(0, 0, 1), NO);
    }

    private static void layRefused() {
        LateRows x = Checks.with("from 1 1");
        x.sheet(0, 1, 8);
        x.head(0, 0);
        C.due("30 BAD", x.lay(4, 0, 1, 0, 1), -2);
        C.due("30 BAD", x.lay(-1, 0, 1, 0, 1), -2);
        C.due("30 BAD", x.lay(0, 8, 1, 0, 1), -2);
        C.due("30 BAD", x.lay(0, -1, 1, 0, 1), -2);
        C.due("30 BAD", x.lay(0, 0, 3, 0, 1), -2);
        C.due("30 BAD", x.lay(3, 0, -1, 0, 1), -2);
        C.due("30 BAD", x.lay(0, 0, 1, 0, 0), -2);
        C.due("30 BAD", x.lay(0, 0, 1, 0, 9), -2);
        C.due("30 -13", x.lay(0, 0, 0, -1, 1), -13);
        C.due("30 -13", x.lay(0, 0, 2, 0, 1), -13);
        C.due("30 -11", x.lay(3, 0, 0, -1, 1), -11);
        C.due("30 -12", x.lay(0, 0, 1, -1, 1), -12);
        C.due("30 -12", x.lay(0, 0, 1, 1, 8), -12);
        C.due("30 -12", x.lay(0, 0, 1, Integer.MAX_VALUE, 8), -12);
        C.due("30 the text stays", x.part(0, 0, 0), 1);
        C.due("30 what is told stays", x.count(2), 1);
        C.due("30 all of it", x.lay(0, 0, 1, 0, 8), 8);
    }
}
