/**
 * Two objects that should be alike: they are asked the same, all that can be seen of their texts, what is told, the
 * sheets, the tape and the image. What is asked at first changes nothing; what comes last shows what lies deeper.
 */
final class Twins {
    private static final long NO = LateRows.NO;

    private final Caller one;
    private final Caller two;
    private String unlike = "";

    private Twins(Caller one, Caller two) {
        this.one = one;
        this.two = two;
    }

    /** The first call that they answer differently, with both answers; empty if there is none. */
    static String difference(Caller one, Caller two) {
        Twins t = new Twins(one, two);
        t.lookAtCounts();
        for (int stream = 0; stream < 8; stream++) t.lookAtStream(stream);
        for (int sheet = 0; sheet < 4; sheet++) t.lookAtSheet(sheet);
        for (int stream = 0; stream < 8; stream++) t.askStream(stream);
        t.ask("text 7");
        t.ask("print 7 -1");
        t.ask("back");
        t.lookAtCounts();
        for (int stream = 0; stream < 8; stream++) t.askStream(stream);
        return t.unlike;
    }

    private long ask(String call) {
        long a = one.call(call);
        long b = two.call(call);
        if (a != b && unlike.isEmpty()) unlike = call + " answers " + a + " and " + b;
        return a;
    }

    private void lookAtCounts() {
        for (int what = 0; what <= 6; what++) ask("count " + what);
    }

    private void lookAtStream(int stream) {
        long bytes = ask("print " + stream + " -1");
        for (int k = 0; k < bytes; k++) ask("print " + stream + " " + k);
        for (int k = 0; bytes > 0 && ask("part " + stream + " " + k + " 0") >= 0; k++) {
            for (int what = 2; what <= 4; what++) ask("part " + stream + " " + k + " " + what);
        }
    }

    /** Refused calls tell whether it is missing (put: -11), and of which sort it is (lay: not -13). */
    private void lookAtSheet(int sheet) {
        if (ask("put " + sheet + " -1 0") == -11) return;
        for (int sort = 0; sort <= 2; sort++) ask("lay " + sheet + " 0 " + sort + " 99 1");
        int i = 0;
        while (ask("item " + sheet + " " + i) != NO) i++;
    }

    private void askStream(int stream) {
        if (ask("need " + stream + " 2") == LateRows.STATE) return;
        ask("is " + stream + " 1");
        ask("count 4");
        ask("head " + stream + " 2");
        ask("count 4");
    }
}
