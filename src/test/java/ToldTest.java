/** Promises 11 to 20: places and heads, faults, runs and the limit, and what is asked of whole rows. */
public final class ToldTest {
    private static final Checks C = new Checks();
    private static final long NO = LateRows.NO;

    public static void main(String[] args) {
        rowsOfEachKind();
        there();
        is();
        faults();
        rings();
        head();
        need();
        limit();
        runsOfEachKind();
        dearKeepsWhatIsTold();
        forget();
        sum();
        find();
        differ();
        rises();
        C.end();
    }

    /** A row's numbers from place 0 on, and how it goes on behind them: the outcome of the next place. */
    private static void dueRow(String text, int behind, long... numbers) {
        LateRows x = Checks.with(text, "list 1,2,3,4,5,6", "list 4,2,4,8", "from 1 1", "list 5,0,7");
        for (int i = 0; i < numbers.length; i++) {
            C.due("12 is " + i + " of " + text, x.is(0, i), 1);
            C.due("13 head " + i + " of " + text, x.head(0, i), numbers[i]);
        }
        C.due("12 is behind the end of " + text, x.is(0, numbers.length), behind);
        C.due("13 head behind the end of " + text, x.head(0, numbers.length), behind == 1 ? x.head(0, numbers.length) : NO);
    }

    private static void rowsOfEachKind() {
        dueRow("b", 0, 1, 2, 3, 4, 5, 6);
        dueRow("from 5 -2", 1, 5, 3, 1, -1);
        dueRow("from -9999 9999", 1, -9999, 0, 9999, 19998);
        dueRow("list 3,-1,3", 0, 3, -1, 3);
        dueRow("map + 2 c", 0, 6, 4, 6, 10);
        dueRow("map - 5 c", 0, -1, -3, -1, 3);
        dueRow("map * -3 c", 0, -12, -6, -12, -24);
        dueRow("map / -3 c", 0, -1, 0, -1, -2);
        dueRow("map / 2 list -3,3", 0, -1, 1);
        dueRow("map % 3 list -4,4,-3", 0, -1, 1, 0);
        dueRow("map % -3 list -4,4", 0, -1, 1);
        dueRow("keep < 4 b", 0, 1, 2, 3);
        dueRow("keep > 3 c", 0, 4, 4, 8);
        dueRow("keep = 4 c", 0, 4, 4);
        dueRow("keep % 2 b", 0, 2, 4, 6);
        dueRow("keep % -2 list -2,-1,0", 0, -2, 0);
        dueRow("while < 3 b", 0, 1, 2);
        dueRow("while > 3 c", 0, 4);
        dueRow("while = 1 b", 0, 1);
        dueRow("while % 2 c", 0, 4, 2, 4, 8);
        dueRow("while < 0 b", 0);
        dueRow("zip - b c", 0, -3, 0, -1, -4);
        dueRow("zip * c b", 0, 4, 4, 12, 32);
        dueRow("merge b c", 0, 1, 2, 3, 4, 2, 4, 5, 6, 8);
        dueRow("merge list 1,3 list 1,2,9", 0, 1, 2, 3, 9);
        dueRow("merge list 2,2 list 2", 0, 2, 2);
        dueRow("merge list 2 list 2,2", 0, 2, 2);
        dueRow("take 2 b", 0, 1, 2);
        dueRow("take 0 b", 0);
        dueRow("take 9999 c", 0, 4, 2, 4, 8);
        dueRow("drop 4 b", 0, 5, 6);
        dueRow("drop 0 c", 0, 4, 2, 4, 8);
        dueRow("drop 7 b", 0);
        dueRow("scan + b", 0, 1, 3, 6, 10, 15, 21);
        dueRow("scan - c", 0, 4, 2, -2, -10);
        dueRow("sieve from 2 1", 1, 2, 3, 5, 7, 11);
        dueRow("sieve list 4,2,6,8,3,9", 0, 4, 2, 3);
        dueRow("cons 9 b", 0, 9, 1, 2, 3, 4, 5, 6);
        dueRow("cut 2 b", 0, 3, 7, 11);
        dueRow("cut 4 b", 0, 10);
        dueRow("cut 1 c", 0, 4, 2, 4, 8);
        dueRow("cons 1 map * 2 a", 1, 1, 2, 4, 8, 16);
        dueRow("cons 1 merge map * 2 a map * 3 a", 1, 1, 2, 3, 4, 6, 8, 9, 12);
        dueRow("scan * map + 9998 from 1 0", 1, 9999, 99980001);
    }

    private static void there() {
        LateRows x = Checks.with("list 1,2", "map / 0 from 1 1", "h");
        C.due("11 there", x.there(0, 1), 1);
        C.due("11 ended", x.there(0, 2), 0);
        C.due("11 ended long ago", x.there(0, 63), 0);
        C.due("11 a head's fault isn't asked", x.there(1, 3), 1);
        C.due("11 no head is told", x.count(3), 0);
        C.due("11 fault", x.there(2, 0), -23);
        C.due("11 BAD", x.there(-1, 0), -2);
        C.due("11 BAD", x.there(8, 0), -2);
        C.due("11 BAD", x.there(7, -1), -2);
        C.due("11 BAD", x.there(7, 64), -2);
        C.due("11 STATE", x.there(7, 63), -3);
        x.limit(2);
        C.due("11 DEAR", x.there(1, 9), -6);
        Checks.lay(x, 3, "from 0 1");
        x.limit(99);
        C.due("11 the last place", x.there(3, 63), 1);
        C.due("11 runs", x.count(4), 64);
    }

    private static void is() {
        LateRows x = Checks.with("list 1,2", "map / 0 from 1 1");
        C.due("12 is", x.is(0, 0), 1);
        C.due("12 one place and its head", x.count(4), 2);
        C.due("12 ended", x.is(0, 5), 0);
        C.due("12 two places more", x.count(4), 2);
        C.due("12 ended for good", x.is(0, 63), 0);
        C.due("12 without any run", x.count(4), 0);
        C.due("12 fault", x.is(1, 0), -22);
        C.due("12 four runs", x.count(4), 4);
        C.due("12 fault again", x.is(1, 0), -22);
        C.due("12 without any run", x.count(4), 0);
        C.due("12 BAD", x.is(8, 0), -2);
        C.due("12 BAD", x.is(0, 64), -2);
        C.due("12 BAD", x.is(7, -1), -2);
        C.due("12 STATE", x.is(7, 0), -3);
        x.limit(0);
        C.due("12 DEAR", x.is(1, 1), -6);
        C.due("12 told needs no run", x.is(1, 0), -22);
    }

    private static void faults() {
        LateRows x = Checks.with("zip / b list 1,0,2", "from 7 1", "cons 5 h", "drop 60 b", "keep > 9999 take 3 d", "drop 64 b",
            "zip + map / 0 b h");
        C.due("2 ahead", x.head(0, 0), 7);
        C.due("2 by 0", x.is(0, 1), -22);
        C.due("2 goes on", x.head(0, 2), 4);
        C.due("2 ended", x.is(0, 3), 0);
        C.due("3 ahead", x.head(2, 0), 5);
        C.due("3 empty", x.is(2, 1), -23);
        C.due("3 from there on", x.is(2, 9), -23);
        C.due("3 failed", x.part(2, 0, 4), -23);
        C.due("4 ahead", x.head(3, 3), 70);
        C.due("4 too far", x.is(3, 4), -24);
        C.due("4 b goes on", x.part(1, 0, 4), 1);
        C.due("4 none is kept", x.is(4, 0), 0);
        C.due("4 no place is told for it", x.is(5, 0), -24);
        C.due("4 one run", x.count(4), 1);
        C.due("3 of T's place", x.is(6, 0), -23);
        C.due("3 no head was asked", x.part(6, 1, 3), 0);
        LateRows y = Checks.with("sieve from 0 1", "while % 0 from 1 1", "merge from 1 1 cons 1 b", "keep > 0 map % 0 from 1 1",
            "scan + map / 0 from 1 1", "cut 7 from 1 1", "keep < 0 from 1 1", "map / 0 h");
        C.due("2 sieve keeps 0", y.head(0, 0), 0);
        C.due("2 sieve by 0", y.is(0, 1), -22);
        C.due("2 sieve failed", y.there(0, 1), -22);
        C.due("2 while", y.there(1, 0), -22);
        C.due("2 keep", y.there(3, 0), -22);
        C.due("2 merge ahead", y.head(2, 0), 1);
        C.due("2 merge", y.there(2, 1), -22);
        C.due("2 scan", y.is(4, 0), -22);
        C.due("2 scan again", y.is(4, 1), -22);
        C.due("2 scan is there", y.there(4, 1), 1);
        C.due("2 the head ahead was told", y.part(4, 0, 3), 2);
        C.due("2 S's second head wasn't asked", y.part(4, 1, 3), 1);
        C.due("4 cut ahead", y.head(5, 8), 57 + 58 + 59 + 60 + 61 + 62 + 63);
        C.due("4 cut", y.is(5, 9), -24);
        C.due("4 keep is dear", y.is(6, 0), -6);
        C.due("4 keep", y.is(6, 0), -24);
        C.due("4 keep began runs", y.count(4), 1 + 128 - 98);
        C.due("1 a head that is asked of a ring", y.is(7, 0), -21);
    }

    private static void rings() {
        LateRows x = Checks.with("a", "c", "b", "map + 1 b", "map + 1 e", "cons 1 drop 1 f", "cons 1 zip + g drop 70 g", "cut 2 cons 1 h");
        C.due("1 a name of itself", x.is(0, 0), -21);
        C.due("1 no run", x.count(4), 0);
        C.due("1 names round", x.is(1, 5), -21);
        C.due("1 into a ring of names", x.is(3, 0), -21);
        C.due("1 one run", x.count(4), 1);
        C.due("1 itself", x.is(4, 0), -21);
        C.due("1 one run", x.count(4), 1);
        C.due("1 failed", x.part(4, 0, 4), -21);
        C.due("1 what is told may be asked", x.head(5, 0), 1);
        C.due("1 what isn't, not", x.is(5, 1), -21);
        C.due("1 drop failed, too", x.part(5, 1, 4), -21);
        C.due("4 is no ring", x.is(6, 1), -24);
        C.due("1 cut", x.is(7, 0), -21);
        C.due("1 cons in it failed", x.part(7, 1, 4), -21);
        C.due("1 cons in it has one place", x.part(7, 1, 2), 1);
    }

    private static void head() {
        LateRows x = Checks.with("map / 0 from 1 1", "list 3");
        C.due("13 fault", x.head(0, 0), NO);
        C.due("13 its runs", x.count(4), 4);
        C.due("13 number", x.head(1, 0), 3);
        C.due("13 its runs", x.count(4), 2);
        C.due("13 ended", x.head(1, 1), NO);
        C.due("13 its run", x.count(4), 1);
        C.due("13 no stream", x.head(8, 0), NO);
        C.due("13 no stream", x.head(-1, 0), NO);
        C.due("13 no place", x.head(1, 64), NO);
        C.due("13 no place", x.head(1, -1), NO);
        C.due("13 empty", x.head(7, 0), NO);
        C.due("13 refused calls don't count", x.count(4), 1);
        x.limit(1);
        C.due("13 dear", x.head(0, 2), NO);
    }

    private static void need() {
        LateRows x = Checks.with("cons 0 cons 1 zip + a drop 1 a", "list 1", "map / 0 from 1 1", "from 1 1");
        x.limit(0);
        C.due("14 need", x.need(0, 10), 78);
        C.due("14 nothing is told", x.count(2) + x.count(3), 0);
        C.due("14 it isn't counted", x.count(4), 0);
        C.due("14 DEAR", x.need(0, 40), -6);
        C.due("14 nothing is told", x.count(2) + x.count(3), 0);
        C.due("14 ended", x.need(1, 9), 2);
        C.due("14 fault", x.need(2, 0), 4);
        C.due("14 all places and one head", x.need(3, 63), 65);
        x.limit(78);
        C.due("14 just enough", x.is(0, 10), 1);
        C.due("14 nothing more", x.need(0, 10), 0);
        C.due("14 one place more", x.need(0, 11), 8);
        C.due("14 BAD", x.need(8, 0), -2);
        C.due("14 BAD", x.need(7, 64), -2);
        C.due("14 BAD", x.need(7, -1), -2);
        C.due("14 STATE", x.need(7, 0), -3);
        C.due("14 the limit stays", x.count(6), 78);
        x.forget();
        x.limit(77);
        C.due("14 one too few", x.is(0, 10), -6);
    }

    private static void limit() {
        LateRows x = new LateRows();
        C.due("15 BAD", x.limit(-1), -2);
        C.due("15 BAD", x.limit(100), -2);
        C.due("15 was", x.limit(0), 99);
        C.due("15 was", x.limit(99), 0);
        C.due("15 was", x.limit(5), 99);
        C.due("15 count(6)", x.count(6), 5);
    }

    private static void dueRuns(String text, int places, int heads) {
        LateRows x = Checks.with(text, "list 1,2,3,4,5,6");
        x.there(0, 2);
        C.due("25 runs for three places of " + text, x.count(4), places);
        x.is(0, 2);
        C.due("25 runs for the third head of " + text, x.count(4), heads);
    }

    private static void runsOfEachKind() {
        dueRuns("b", 3, 1);
        dueRuns("from 1 1", 3, 1);
        dueRuns("map + 1 b", 6, 2);
        dueRuns("keep % 2 b", 3 + 6 + 6, 1);
        dueRuns("while > 0 b", 3 + 3 + 3, 1);
        dueRuns("zip + b b", 3 + 3, 2);
        dueRuns("zip + b list 1,2,3", 9, 3);
        dueRuns("merge b list 1,1,1", 3 + 2 + 3 + 2 + 3, 1);
        dueRuns("merge list 0 b", 3 + 2 + 2 + 1 + 1, 2);
        dueRuns("take 3 b", 6, 2);
        dueRuns("take 2 b", 5, 0);
        dueRuns("drop 2 b", 8, 2);
        dueRuns("scan + b", 6, 6);
        dueRuns("sieve list 2,3,5", 3 + 4 + 4, 1);
        dueRuns("sieve b", 2 + 7 + 6 + 1, 0);
        dueRuns("cons 1 b", 5, 2);
        dueRuns("cut 2 b", 9, 3);
    }

    private static void dearKeepsWhatIsTold() {
        LateRows x = Checks.with("keep > 3 from 1 1", "merge map * 2 c map * 3 c", "from 1 1", "scan + c");
        x.limit(6);
        C.due("15 dear", x.is(0, 0), -6);
        C.due("15 nothing is kept", x.part(0, 0, 2), 0);
        C.due("15 it goes on", x.part(0, 0, 4), 1);
        C.due("15 S's places stay", x.part(0, 1, 2), 3);
        C.due("15 S's heads stay", x.part(0, 1, 3), 2);
        C.due("15 then it is told", x.is(0, 0), 1);
        C.due("15 with five runs", x.count(4), 5);
        C.due("15 number", x.head(0, 0), 4);
        x.limit(5);
        C.due("15 merge is dear", x.is(1, 0), -6);
        C.due("15 nothing is taken", x.part(1, 0, 2), 0);
        C.due("15 no head is told", x.part(1, 1, 3) + x.part(1, 3, 3), 0);
        x.limit(4);
        C.due("15 dear at its own head", x.is(1, 0), -6);
        C.due("15 heads of both", x.part(1, 1, 3) + x.part(1, 3, 3), 2);
        C.due("15 the place is taken", x.part(1, 0, 2), 1);
        C.due("15 then", x.is(1, 0), 1);
        C.due("15 with one run", x.count(4), 1);
        x.forget();
        x.limit(4);
        C.due("15 as many as are allowed", x.there(3, 1), 1);
        C.due("15 as many as are allowed", x.is(3, 1), 1);
        x.forget();
        x.limit(99);
        x.there(3, 40);
        x.limit(10);
        C.due("15 scan's heads lead down", x.is(3, 40), -6);
        C.due("15 none is told", x.part(3, 0, 3), 0);
        x.limit(99);
        C.due("15 and then", x.head(3, 40), 41 * 42 / 2);
    }

    private static void forget() {
        LateRows x = Checks.with("map / 0 list 1,2", "keep % 0 from 1 1");
        C.due("16 nothing", x.forget(), 0);
        x.is(0, 2);
        C.due("16 ends don't count", x.forget(), 4);
        x.is(0, 1);
        C.due("16 faults of heads count", x.forget(), 6);
        C.due("16 untold", x.part(0, 0, 2) + x.part(0, 0, 3) + x.count(2) + x.count(3), 0);
        x.is(1, 0);
        C.due("16 failed", x.part(1, 0, 4), -22);
        C.due("16 faults of rows don't", x.forget(), 2);
        C.due("16 goes on", x.part(1, 0, 4), 1);
        C.due("16 again", x.is(0, 0), -22);
        C.due("16 with all runs", x.count(4), 4);
    }

    private static void sum() {
        LateRows x = Checks.with("list 1,2,3", "zip / from 6 0 list 3,2,0", "from 1 1", "scan * from 9999 0");
        C.due("17 none", x.sum(0, 0), 0);
        C.due("17 no run", x.count(4), 0);
        C.due("17 two", x.sum(0, 2), 3);
        C.due("17 till the end", x.sum(0, 64), 6);
        C.due("17 ahead of the fault", x.sum(1, 2), 5);
        C.due("17 the fault", x.sum(1, 3), NO);
        C.due("17 the fault counts its runs", x.count(4), 6);
        C.due("17 BAD", x.sum(0, 65), NO);
        C.due("17 BAD", x.sum(0, -1), NO);
        C.due("17 BAD", x.sum(8, 0), NO);
        C.due("17 empty", x.sum(7, 0), NO);
        C.due("17 DEAR", x.sum(2, 64), -6);
        C.due("17 then", x.sum(2, 64), 64 * 65 / 2);
        long power = 1;
        long wrapped = 0;
        for (int i = 0; i < 6; i++) {
            power *= 9999;
            wrapped += power;
        }
        C.due("17 wrapped", x.sum(3, 6), wrapped);
    }

    private static void find() {
        LateRows x = Checks.with("list 5,6,5", "zip / from 6 0 list 3,0,6", "from 1 1");
        C.due("18 first", x.find(0, 5, 3), 0);
        C.due("18 no more is asked", x.count(4), 2);
        C.due("18 second", x.find(0, 6, 64), 1);
        C.due("18 below n", x.find(0, 6, 1), -1);
        C.due("18 none below 0", x.find(0, 5, 0), -1);
        C.due("18 till the end", x.find(0, 7, 64), -1);
        C.due("18 ahead of the fault", x.find(1, 2, 64), 0);
        C.due("18 not behind the fault", x.find(1, 1, 64), -1);
        C.due("18 though it is there", x.head(1, 2), 1);
        C.due("18 BAD", x.find(0, 5, 65), -2);
        C.due("18 BAD", x.find(7, 5, -1), -2);
        C.due("18 BAD", x.find(8, 5, 1), -2);
        C.due("18 STATE", x.find(7, 5, 1), -3);
        C.due("18 DEAR", x.find(2, 64, 64), -6);
        C.due("18 then", x.find(2, 64, 64), 63);
    }

    private static void differ() {
        LateRows x = Checks.with("list 1,2,3", "from 1 1", "list 1,2,3", "h", "map / 0 from 1 1", "zip / b list 0,0,1", "cons 1 h");
        C.due("19 ends", x.differ(0, 1, 64), 3);
        C.due("19 below n", x.differ(0, 1, 3), -1);
        C.due("19 alike to the end", x.differ(0, 2, 64), -1);
        C.due("19 itself", x.differ(1, 1, 9), -1);
        C.due("19 none", x.differ(0, 3, 0), -1);
        C.due("19 numbers", x.differ(0, 6, 64), 1);
        C.due("19 a fault and a number", x.differ(3, 0, 1), 0);
        C.due("19 both failed", x.differ(3, 3, 64), -1);
        C.due("19 faults that aren't alike", x.differ(3, 4, 1), 0);
        C.due("19 none behind heads with like faults", x.differ(4, 5, 64), -1);
        C.due("19 BAD", x.differ(8, 0, 1), -2);
        C.due("19 BAD", x.differ(0, -1, 1), -2);
        C.due("19 BAD", x.differ(7, 0, 65), -2);
        C.due("19 BAD", x.differ(7, 0, -1), -2);
        C.due("19 STATE", x.differ(7, 0, 1), -3);
        C.due("19 STATE", x.differ(0, 7, 1), -3);
        x.forget();
        x.limit(2);
        C.due("19 DEAR", x.differ(0, 2, 1), -6);
        C.due("19 the one is asked first", x.part(0, 0, 2), 1);
        C.due("19 the other wasn't", x.part(2, 0, 2), 0);
    }

    private static void rises() {
        LateRows x = Checks.with("list 1,2,2,3", "list -5", "from 1 1", "h", "zip / from 6 0 list 3,2,0", "keep < 0 list 1", "from 0 -1");
        C.due("20 two", x.rises(0), 2);
        C.due("20 three were asked", x.part(0, 0, 2), 3);
        C.due("20 the first counts", x.rises(1), 1);
        C.due("20 DEAR", x.rises(2), -6);
        C.due("20 all", x.rises(2), 64);
        C.due("20 a fault", x.rises(3), 0);
        C.due("20 a head's fault", x.rises(4), 2);
        C.due("20 none", x.rises(5), 0);
        C.due("20 falls", x.rises(6), 1);
        C.due("20 BAD", x.rises(8), -2);
        C.due("20 BAD", x.rises(-1), -2);
        C.due("20 STATE", x.rises(7), -3);
    }
}
