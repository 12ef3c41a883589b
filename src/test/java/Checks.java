/** What the tests of the project share: they count answers that aren't as due, and end with 1 if there are some. */
final class Checks {
    private int asked = 0;
    private int wrong = 0;

    void due(String call, long got, long want) {
        asked++;
        if (got == want) return;
        wrong++;
        System.out.println(call + " answered " + got + ", due is " + want);
    }

    /** Feeds a text and makes it the TEXT of a STREAM: what text() answers. */
    static int lay(LateRows x, int stream, String text) {
        for (int i = 0; i < text.length(); i++) x.feed(text.charAt(i));
        return x.text(stream);
    }

    static LateRows with(String... texts) {
        LateRows x = new LateRows();
        for (int s = 0; s < texts.length; s++) {
            if (!texts[s].isEmpty() && lay(x, s, texts[s]) < 1) throw new IllegalStateException("no text: " + texts[s]);
        }
        return x;
    }

    static String printed(LateRows x, int stream) {
        StringBuilder s = new StringBuilder();
        int size = x.print(stream, -1);
        for (int k = 0; k < size; k++) s.append((char) x.print(stream, k));
        return s.toString();
    }

    void dueText(String call, String got, String want) {
        asked++;
        if (got.equals(want)) return;
        wrong++;
        System.out.println(call + " answered '" + got + "', due is '" + want + "'");
    }

    void end() {
        System.out.println(wrong == 0 ? asked + " answers are as due" : wrong + " of " + asked + " answers are not as due");
        if (wrong != 0) System.exit(1);
    }
}
