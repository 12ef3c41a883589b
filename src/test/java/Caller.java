import java.util.ArrayList;
import java.util.List;

/** Calls of one object by their names, counted: the document promises nothing behind the 512th. */
final class Caller {
    private static final int MOST_CALLS = 512;

    private final LateRows x = new LateRows();
    private final List<String> history = new ArrayList<>();

    /** A call as it is written: its name and its numbers, with blanks between. */
    long call(String written) {
        if (history.size() == MOST_CALLS) throw new IllegalStateException("more than " + MOST_CALLS + " calls: " + written);
        history.add(written);
        String[] words = written.split(" ");
        long[] n = new long[words.length - 1];
        for (int i = 0; i < n.length; i++) n[i] = Long.parseLong(words[i + 1]);
        return answer(words[0] + "/" + n.length, n);
    }

    /** A new object that has had the same calls. */
    Caller twin() {
        Caller twin = new Caller();
        for (String written : history) twin.call(written);
        return twin;
    }

    private long answer(String name, long[] n) {
        switch (name) {
            case "feed/1": return x.feed((int) n[0]);
            case "text/1": return x.text((int) n[0]);
            case "empty/1": return x.empty((int) n[0]);
            case "part/3": return x.part((int) n[0], (int) n[1], (int) n[2]);
            case "number/2": return x.number((int) n[0], (int) n[1]);
            case "entry/3": return x.entry((int) n[0], (int) n[1], (int) n[2]);
            case "twist/3": return x.twist((int) n[0], (int) n[1], (int) n[2]);
            case "taken/3": return x.taken((int) n[0], (int) n[1], (int) n[2]);
            case "print/2": return x.print((int) n[0], (int) n[1]);
            case "there/2": return x.there((int) n[0], (int) n[1]);
            case "is/2": return x.is((int) n[0], (int) n[1]);
            case "head/2": return x.head((int) n[0], (int) n[1]);
            case "need/2": return x.need((int) n[0], (int) n[1]);
            case "limit/1": return x.limit((int) n[0]);
            case "forget/0": return x.forget();
            case "sum/2": return x.sum((int) n[0], (int) n[1]);
            case "find/3": return x.find((int) n[0], n[1], (int) n[2]);
            case "differ/3": return x.differ((int) n[0], (int) n[1], (int) n[2]);
            case "rises/1": return x.rises((int) n[0]);
            case "film/3": return x.film((int) n[0], (int) n[1], (int) n[2]);
            case "tells/3": return x.tells((int) n[0], (int) n[1], (int) n[2]);
            case "image/0": return x.image();
            case "back/0": return x.back();
            case "count/1": return x.count((int) n[0]);
            case "sheet/3": return x.sheet((int) n[0], (int) n[1], (int) n[2]);
            case "put/3": return x.put((int) n[0], (int) n[1], n[2]);
            case "item/2": return x.item((int) n[0], (int) n[1]);
            case "copy/5": return x.copy((int) n[0], (int) n[1], (int) n[2], (int) n[3], (int) n[4]);
            case "lay/5": return x.lay((int) n[0], (int) n[1], (int) n[2], (int) n[3], (int) n[4]);
            default: throw new IllegalStateException("no such call: " + name);
        }
    }
}
