/** Promises 21 to 25: films, what a sheet tells, images and counts. */
public final class ReadBackTest {
    private static final Checks C = new Checks();
    private static final long NO = LateRows.NO;

    public static void main(String[] args) {
        film();
        tellsStreams();
        tellsNumbers();
        tellsRefused();
        tellsWithinTheLimit();
        image();
        imageKeepsTwists();
        count();
        C.end();
    }

    private static void film() {
        LateRows x = Checks.with("list 7,-8", "from 1 1", "zip / from 6 0 list 3,0", "h");
        C.due("21 two", x.film(0, 0, 16), 2);
        C.due("21 item", x.item(0, 0), 7);
        C.due("21 item", x.item(0, 1), -8);
        C.due("21 no more", x.item(0, 2), NO);
        C.due("21 its runs", x.count(4), 5);
        x.sheet(1, 2, 3);
        C.due("21 bytes become longs", x.film(1, 1, 3), 3);
        x.put(1, 0, 1L << 40);
        C.due("21 a long fits", x.item(1, 0), 1L << 40);
        C.due("21 ahead of a fault", x.film(1, 2, 5), 1);
        C.due("21 item", x.item(1, 0), 2);
        C.due("21 none", x.film(1, 3, 5), 0);
        C.due("21 none is not missing", x.put(1, 0, 1), -12);
        C.due("21 none", x.film(2, 1, 0), 0);
        C.due("21 no run", x.count(4), 0);
        C.due("21 BAD", x.film(4, 0, 1), -2);
        C.due("21 BAD", x.film(-1, 0, 1), -2);
        C.due("21 BAD", x.film(0, 8, 1), -2);
        C.due("21 BAD", x.film(0, 7, 17), -2);
        C.due("21 BAD", x.film(0, 7, -1), -2);
        C.due("21 STATE", x.film(0, 7, 16), -3);
        x.forget();
        x.limit(5);
        C.due("21 DEAR", x.film(0, 1, 16), -6);
        C.due("21 the sheet stays", x.item(0, 0), 7);
        C.due("21 what is told stays", x.count(2), 3);
    }

    private static void tellsStreams() {
        LateRows x = Checks.with("from 1 1", "list 1,2,3", "map + 0 a", "from 1 2", "h", "map / 0 a", "cons 1 cons 2 f");
        x.film(0, 0, 3);
        x.forget();
        C.due("22 three tell 1 2 3", x.tells(0, 0, 0), 1 + 2 + 4);
        C.due("22 in thought", x.count(2) + x.count(3), 0);
        C.due("22 not counted", x.count(4), 6);
        x.film(0, 0, 4);
        C.due("22 what has ended does not tell 4 numbers", x.tells(0, 1, 0), 1 + 4);
        x.film(0, 0, 2);
        C.due("22 what comes behind isn't asked", x.tells(0, 1, 0), 1 + 2 + 4 + 64);
        x.film(0, 0, 0);
        C.due("22 no numbers are told by all", x.tells(0, 0, 0), 127);
        x.sheet(1, 2, 1);
        x.put(1, 0, 257);
        C.due("22 bytes tell, too", x.tells(1, 0, 0), 1 + 2 + 4 + 8 + 64);
    }

    private static void tellsNumbers() {
        LateRows x = Checks.with("map * 2 keep % 3 from 0 1", "cut 2 from 1 1", "drop 3 from 1 1", "take 2 from 1 1", "while < 3 from 1 1",
            "cons 20 g", "from 1 1");
        x.film(0, 0, 3);
        C.due("22 map: one", x.tells(0, 0, 4), 1);
        C.due("22 map: 2", x.tells(0, 0, 5), 2);
        C.due("22 keep: one", x.tells(0, 0, 8), 1);
        C.due("22 keep: 3", x.tells(0, 0, 9), 3);
        C.due("22 from: 0", x.tells(0, 0, 13), 0);
        C.due("22 from: numbers that lead to 0 3 6", x.tells(0, 0, 12), 1);
        C.due("22 numbers stay", x.number(0, 0), 2);
        x.film(0, 1, 3);
        C.due("22 cut: one", x.tells(0, 1, 4), 1);
        C.due("22 cut: 2", x.tells(0, 1, 5), 2);
        x.film(0, 2, 2);
        C.due("22 drop: 3", x.tells(0, 2, 5), 3);
        x.film(0, 3, 2);
        C.due("22 take: 2 to 20", x.tells(0, 3, 4), 19);
        C.due("22 take: 2", x.tells(0, 3, 5), 2);
        x.film(0, 3, 0);
        C.due("22 take: 0 to 20", x.tells(0, 3, 4), 21);
        C.due("22 cut: 1 to 9", x.tells(0, 1, 4), 9);
        C.due("22 cut: 1", x.tells(0, 1, 5), 1);
        x.film(0, 4, 2);
        C.due("22 while: 3 to 20", x.tells(0, 4, 4), 18);
        x.film(0, 5, 2);
        C.due("22 cons: 20", x.tells(0, 5, 5), 20);
        x.put(0, 0, 21);
        C.due("22 cons: none", x.tells(0, 5, 5), -1);
        C.due("22 cons: none", x.tells(0, 5, 4), 0);
    }

    private static void tellsRefused() {
        LateRows x = Checks.with("zip + from 1 1 map + 1 a");
        x.sheet(0, 0, 17);
        x.sheet(1, 0, 16);
        C.due("22 BAD", x.tells(4, 0, 0), -2);
        C.due("22 BAD", x.tells(-1, 0, 0), -2);
        C.due("22 BAD", x.tells(0, 8, 0), -2);
        for (int what : new int[] {-4, -1, 1, 2, 3, 6, 7, 10, 99}) C.due("22 BAD " + what, x.tells(1, 7, what), -2);
        C.due("22 STATE", x.tells(2, 7, 4), -3);
        C.due("22 -12", x.tells(2, 0, 20), -12);
        C.due("22 -12", x.tells(2, 0, Integer.MAX_VALUE - 3), -12);
        C.due("22 -13", x.tells(2, 0, 4), -13);
        C.due("22 -13", x.tells(2, 0, 17), -13);
        C.due("22 -11", x.tells(2, 0, 8), -11);
        C.due("22 -11", x.tells(2, 0, 0), -11);
        C.due("22 more than 16", x.tells(0, 0, 0), -2);
        C.due("22 more than 16", x.tells(0, 0, 8), -2);
        C.due("22 sixteen", x.tells(1, 0, 0), 0);
    }

    private static void tellsWithinTheLimit() {
        LateRows x = Checks.with("from 1 1", "from 1 1", "map + 0 a");
        x.film(0, 0, 3);
        x.forget();
        x.limit(6);
        C.due("22 each counts anew", x.tells(0, 0, 0), 3);
        x.limit(5);
        C.due("22 all are dear", x.tells(0, 0, 0), 0);
        C.due("22 all are dear", x.tells(0, 0, 4), 0);
        x.sum(0, 2);
        C.due("22 what is told needs no run", x.tells(0, 0, 0), 1);
        C.due("22 for a number all is untold", x.tells(0, 0, 4), 0);
        x.limit(6);
        C.due("22 but so", x.tells(0, 0, 5), 1);
        C.due("22 what is told stays", x.count(2) + x.count(3), 4);
    }

    private static void image() {
        LateRows x = Checks.with("keep % 2 from 1 1", "merge b a");
        C.due("24 STATE", x.back(), -3);
        x.head(0, 1);
        x.is(1, 0);
        x.limit(50);
        int places = x.count(2);
        int heads = x.count(3);
        C.due("23 two", x.image(), 2);
        x.head(0, 5);
        x.limit(1);
        x.empty(1);
        Checks.lay(x, 2, "from 9 9");
        Checks.lay(x, 3, "h");
        x.feed('a');
        x.sheet(0, 0, 3);
        int runs = x.count(4);
        C.due("24 two", x.back(), 2);
        C.due("24 limit", x.count(6), 50);
        C.due("24 places", x.count(2), places);
        C.due("24 heads", x.count(3), heads);
        C.due("24 failed again", x.part(1, 0, 4), -21);
        C.due("24 stream 2 is empty", x.is(2, 0), -3);
        C.due("24 the tape stays", x.count(5), 1);
        C.due("24 sheets stay", x.item(0, 2), 0);
        C.due("24 runs stay", x.count(4), runs);
        C.due("24 told", x.head(0, 1), 4);
        C.due("24 no run", x.count(4), 0);
        C.due("24 behind the one kept last", x.head(0, 2), 6);
        C.due("24 six runs", x.count(4), 6);
        x.forget();
        C.due("24 once more", x.back(), 2);
        C.due("24 places", x.count(2), places);
        x.empty(0);
        x.empty(1);
        C.due("23 none", x.image(), 0);
        Checks.lay(x, 0, "from 1 1");
        C.due("24 none", x.back(), 0);
        C.due("24 all is empty", x.count(1), 0);
    }

    private static void imageKeepsTwists() {
        LateRows x = Checks.with("cons 1 a", "list 4,5");
        x.twist(0, 0, 2);
        x.image();
        x.twist(0, 0, 3);
        x.sheet(0, 0, 2);
        x.lay(0, 1, 0, 0, 1);
        x.back();
        C.due("24 number", x.number(0, 0), 2);
        C.due("24 list", x.part(1, 0, 5), 2);
        C.due("24 entry", x.entry(1, 0, 0), 4);
        C.due("24 head", x.head(0, 1), 2);
    }

    private static void count() {
        LateRows x = Checks.with("map + 1 b", "list 1", "");
        C.due("25 streams", x.count(0), 2);
        C.due("25 parts", x.count(1), 3);
        x.is(0, 1);
        C.due("25 places", x.count(2), 2);
        C.due("25 heads", x.count(3), 0);
        C.due("25 runs", x.count(4), 4);
        x.is(0, 0);
        C.due("25 heads", x.count(3), 2);
        C.due("25 runs", x.count(4), 2);
        x.is(0, 64);
        x.is(7, 0);
        x.head(7, 0);
        x.sum(0, 65);
        x.need(0, 0);
        x.tells(0, 0, 0);
        C.due("25 runs of the latest", x.count(4), 2);
        x.there(0, 0);
        C.due("25 none", x.count(4), 0);
        x.forget();
        x.sum(0, 1);
        C.due("25 runs of sum", x.count(4), 4);
        x.forget();
        x.find(0, 2, 1);
        C.due("25 runs of find", x.count(4), 4);
        x.forget();
        x.differ(0, 1, 1);
        C.due("25 runs of differ", x.count(4), 4);
        x.forget();
        x.rises(0);
        C.due("25 runs of rises", x.count(4), 6);
        x.forget();
        x.film(0, 0, 1);
        C.due("25 runs of film", x.count(4), 4);
        x.forget();
        x.limit(3);
        x.film(0, 0, 1);
        C.due("25 runs of one that was dear", x.count(4), 3);
        x.feed('a');
        C.due("25 bytes", x.count(5), 1);
        C.due("25 limit", x.count(6), 3);
        C.due("25 BAD", x.count(7), -2);
        C.due("25 BAD", x.count(-1), -2);
    }
}
