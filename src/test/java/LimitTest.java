/** "An object is used for at most 512 calls after it has been made": the 512th still answers as due. */
public final class LimitTest {
    private static final Calls CALLS = new Calls();
    private static final int MOST_CALLS = 512;

    public static void main(String[] args) {
        eachMethodLast();
        mostPieces();
        mostCutsThenOnePiece();
        cutsThenJoins();
        spacesAlone();
        refusedCallsAlone();
        CALLS.end();
    }

    private static void last(String title, String[] calls, String call, String want) {
        if (calls.length != MOST_CALLS - 1) {
            throw new IllegalStateException(title + " has " + calls.length + " calls ahead of the last");
        }
        CALLS.due(title + ": " + call, Calls.answer(Calls.after(calls), call), want);
    }

    /** 511 cuts, so that a piece begins at each even cell up to 1022. */
    private static String[] evenCuts() {
        String[] calls = new String[MOST_CALLS - 1];
        for (int i = 0; i < calls.length; i++) {
            calls[i] = "cut(" + (2 * i + 2) + ")";
        }
        return calls;
    }

    private static void eachMethodLast() {
        String title = "the 512th call";
        String[] calls = evenCuts();
        last(title, calls, "space(5)", "1024");
        last(title, calls, "cut(1023)", "1");
        last(title, calls, "cut(1022)", "0");
        last(title, calls, "join(1020)", "4");
        last(title, calls, "join(1023)", "0");
        last(title, calls, "make(1, 4)", "512");
        last(title, calls, "make(1, 3)", "513");
        last(title, calls, "begin(1023)", "1022");
        last(title, calls, "size(1023)", "2");
        last(title, calls, "start(31)", "992");
        last(title, calls, "begins(31)", "16");
        last(title, calls, "count(0)", "1024");
        last(title, calls, "count(1)", "32");
        last(title, calls, "count(2)", "512");
        last(title, calls, "count(3)", "2");
        last(title, calls, "count(4)", "2");
        last(title, calls, "space(0)", "throws.IllegalArgumentException");
        last(title, calls, "count(5)", "throws.IllegalArgumentException");
        last(title, calls, "cut(1024)", "throws.IndexOutOfBoundsException");
        last(title, calls, "make(0, 1025)", "throws.IndexOutOfBoundsException");
    }

    /** Each make leaves two pieces more, and no call can leave more. */
    private static void mostPieces() {
        StartTable table = new StartTable();
        CALLS.due("most pieces: space", Calls.answer(table, "space(16384)"), "1024");
        for (int i = 1; i < MOST_CALLS; i++) {
            int from = 32 * (i - 1) + 8;
            String call = "make(" + from + ", " + (from + 8) + ")";
            CALLS.due("most pieces: " + call, Calls.answer(table, call), String.valueOf(2 * i + 1));
        }
    }

    private static void mostCutsThenOnePiece() {
        last("511 cuts", evenCuts(), "make(0, 1024)", "1");
        last("511 cuts", evenCuts(), "make(0, 1023)", "2");
        last("511 cuts", evenCuts(), "make(1, 1024)", "2");
    }

    private static void cutsThenJoins() {
        StartTable table = new StartTable();
        for (int cell = 1; cell <= 256; cell++) {
            CALLS.due("cut " + cell, Calls.answer(table, "cut(" + cell + ")"), "1");
        }
        for (int cell = 1; cell <= 255; cell++) {
            CALLS.due("join " + cell, Calls.answer(table, "join(0)"), String.valueOf(cell + 1));
        }
        CALLS.due("the last join", Calls.answer(table, "join(0)"), "1024");
    }

    private static void spacesAlone() {
        StartTable table = new StartTable();
        int before = 1024;
        for (int i = 0; i < MOST_CALLS; i++) {
            int n = i % 2 == 0 ? 16384 - i : i;
            CALLS.due("space " + n, Calls.answer(table, "space(" + n + ")"), String.valueOf(before));
            before = n;
        }
    }

    private static void refusedCallsAlone() {
        String[] refused = {"space(0)", "cut(1024)", "join(-1)", "make(7, 7)", "begin(1024)", "size(-1)",
            "start(32)", "begins(-1)", "count(5)"};
        String[] calls = new String[MOST_CALLS - 1];
        for (int i = 0; i < calls.length; i++) {
            calls[i] = refused[i % refused.length];
        }
        String title = "behind 511 refused calls";
        last(title, calls, "space(5)", "1024");
        last(title, calls, "cut(40)", "40");
        last(title, calls, "join(40)", "0");
        last(title, calls, "make(40, 50)", "3");
        last(title, calls, "begin(1023)", "0");
        last(title, calls, "size(1023)", "1024");
        last(title, calls, "start(31)", "0");
        last(title, calls, "begins(0)", "1");
        last(title, calls, "count(2)", "1");
        last(title, calls, "count(5)", "throws.IllegalArgumentException");
    }
}
