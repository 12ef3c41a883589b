/** Counts the calls that stand open at once: OpenCallsTest writes calls of in() and out() into a copy of the program. */
public final class OpenCalls {
    private static int open = 0;
    private static int most = 0;

    private OpenCalls() {
    }

    public static void in() {
        open++;
        most = Math.max(most, open);
    }

    public static void out() {
        open--;
    }

    static int most() {
        return most;
    }

    static int open() {
        return open;
    }
}
