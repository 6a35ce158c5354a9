import java.util.ArrayList;
import java.util.List;

/** Each sentence of the document's section "Terms", which the titles cite. */
public final class TermsTest {
    private static final Calls CALLS = new Calls();
    private static final String INDEX = "IndexOutOfBoundsException";
    private static final String ARGUMENT = "IllegalArgumentException";
    private static final String[] CELL_CALLS = {"cut", "join", "begin", "size"};
    private static final String[] CARD_CALLS = {"start", "begins"};
    private static final String[] NEW_ROW = {};
    private static final int[] CELLS = {1, 2, 31, 32, 33, 63, 64, 65, 100, 1023, 1024, 1025, 16383, 16384};
    // Rows of one piece, of pieces of one cell, over card borders, on them, and with a last card of few cells.
    private static final String[][] ROWS = {
        NEW_ROW,
        {"space(1)"},
        {"space(2)", "cut(1)"},
        {"space(100)", "cut(10)", "cut(32)", "cut(70)", "cut(99)"},
        {"cut(31)", "cut(32)", "cut(33)", "cut(992)", "cut(1023)"},
        {"make(40, 200)", "make(100, 300)", "make(1000, 1024)"},
        {"cut(20)", "cut(40)", "cut(100)", "space(200)", "cut(150)"},
        {"space(16384)", "cut(5000)", "make(16352, 16383)", "join(0)", "cut(1)"}};

    public static void main(String[] args) {
        cellsAtFirst();
        cellsOfSpace();
        onePieceAtFirst();
        tiledByPieces();
        cardsAtFirst();
        cardsOfSpace();
        noSuchCellOrCard();
        illegalArgumentAsTold();
        changesNothing();
        CALLS.end();
    }

    private static String one(String[] setUp, String call) {
        return Calls.answer(Calls.after(setUp), call);
    }

    private static int number(String[] setUp, String call) {
        return Integer.parseInt(one(setUp, call));
    }

    private static void taken(String title, String[] setUp, String call) {
        CALLS.due(title + ": " + call, one(setUp, call).startsWith("throws.") ? "refused" : "taken", "taken");
    }

    private static void cellsAtFirst() {
        String title = "\"CELLS are 0 .. n - 1, n is 1024 at first.\"";
        CALLS.run(title, "count(0) = 1024", "space(1024) = 1024");
        cellsAre(title, 1024, NEW_ROW);
        for (int cell = 0; cell < 1024; cell++) {
            taken(title, NEW_ROW, "begin(" + cell + ")");
        }
    }

    private static void cellsOfSpace() {
        for (int n : CELLS) {
            String title = "\"CELLS are 0 .. n - 1\", n = " + n;
            String[] setUp = {"space(" + n + ")"};
            CALLS.due(title, one(setUp, "count(0)"), String.valueOf(n));
            cellsAre(title, n, setUp);
        }
    }

    private static void cellsAre(String title, int n, String[] setUp) {
        for (String name : CELL_CALLS) {
            taken(title, setUp, name + "(0)");
            taken(title, setUp, name + "(" + (n - 1) + ")");
            CALLS.refuses(title, INDEX, setUp, name + "(-1)", name + "(" + n + ")");
        }
        taken(title, setUp, "make(0, " + n + ")");
        taken(title, setUp, "make(" + (n - 1) + ", " + n + ")");
        CALLS.refuses(title, INDEX, setUp, "make(-1, " + n + ")", "make(" + n + ", " + (n + 1) + ")");
    }

    private static void onePieceAtFirst() {
        String title = "\"They are tiled by PIECES, at first one.\"";
        CALLS.tiled(title, "0 : 1024");
        CALLS.run(title, "count(2) = 1", "count(3) = 1024", "count(4) = 1024", "join(0) = 0", "join(1023) = 0");
        for (int cell = 0; cell < 1024; cell++) {
            CALLS.run(title, "begin(" + cell + ") = 0", "size(" + cell + ") = 1024");
        }
    }

    /** Each cell lies in one piece, the pieces lie end to end, and the counts tell of these pieces. */
    private static void tiledByPieces() {
        for (String[] setUp : ROWS) {
            String title = "\"They are tiled by PIECES\", behind " + String.join(" ", setUp);
            int cells = number(setUp, "count(0)");
            int begin = 0;
            int pieces = 0;
            int greatest = 0;
            int least = cells;
            while (begin < cells) {
                int size = Math.max(1, number(setUp, "size(" + begin + ")"));
                samePiece(title, setUp, begin, size);
                pieces++;
                greatest = Math.max(greatest, size);
                least = Math.min(least, size);
                begin += size;
            }
            CALLS.due(title + ": the end of the last piece", String.valueOf(begin), String.valueOf(cells));
            CALLS.due(title + ": count(2)", one(setUp, "count(2)"), String.valueOf(pieces));
            CALLS.due(title + ": count(3)", one(setUp, "count(3)"), String.valueOf(greatest));
            CALLS.due(title + ": count(4)", one(setUp, "count(4)"), String.valueOf(least));
        }
    }

    private static void samePiece(String title, String[] setUp, int begin, int size) {
        for (int cell = begin; cell < begin + size; cell++) {
            CALLS.due(title + ": begin(" + cell + ")", one(setUp, "begin(" + cell + ")"), String.valueOf(begin));
            CALLS.due(title + ": size(" + cell + ")", one(setUp, "size(" + cell + ")"), String.valueOf(size));
        }
    }

    private static void cardsAtFirst() {
        String title = "\"CARD c has the cells 32 * c .. 32 * c + 31\"";
        CALLS.run(title, "count(1) = 32", "start(31) = 0", "begins(31) = 0",
                "start(32) = throws." + INDEX, "begins(32) = throws." + INDEX);
        for (int cell = 1; cell < 1024; cell++) {
            cardOf(title, 1024, cell);
        }
    }

    private static void cardsOfSpace() {
        for (int n : CELLS) {
            String title = "\"(the last one perhaps fewer)\", n = " + n;
            int cards = 0;
            while (32 * cards < n) {
                cards++;
            }
            String[] setUp = {"space(" + n + ")"};
            CALLS.due(title + ": count(1)", one(setUp, "count(1)"), String.valueOf(cards));
            for (String name : CARD_CALLS) {
                taken(title, setUp, name + "(0)");
                taken(title, setUp, name + "(" + (cards - 1) + ")");
                CALLS.refuses(title, INDEX, setUp, name + "(-1)", name + "(" + cards + ")");
            }
            int firstOfLastCard = 32 * (cards - 1);
            for (int cell = Math.max(1, firstOfLastCard - 1); cell < n; cell++) {
                cardOf(title, n, cell);
            }
        }
    }

    /** A piece that begins at the cell begins on its card alone, and lies over the beginning of those behind. */
    private static void cardOf(String title, int n, int cell) {
        List<String> rows = new ArrayList<>();
        rows.add("space(" + n + ") = 1024");
        rows.add("cut(" + cell + ") = " + cell);
        // Not all cards, because an object is used for at most 512 calls.
        for (int card = 0; 32 * card < n; card++) {
            boolean near = Math.abs(32 * card - cell) < 128;
            if (card < 2 || near) {
                boolean onCard = 32 * card <= cell && cell <= 32 * card + 31;
                int begun = (card == 0 ? 1 : 0) + (onCard ? 1 : 0);
                rows.add("begins(" + card + ") = " + begun);
                rows.add("start(" + card + ") = " + (cell <= 32 * card ? cell : 0));
            }
        }
        CALLS.run(title, rows.toArray(new String[0]));
    }

    private static void noSuchCellOrCard() {
        String title = "\"IndexOutOfBoundsException: there is no such cell or card.\"";
        for (String[] setUp : ROWS) {
            int cells = number(setUp, "count(0)");
            int cards = number(setUp, "count(1)");
            for (int past : new int[] {0, 1, 31, 32, 16384, Integer.MAX_VALUE - 16384}) {
                for (String name : CELL_CALLS) {
                    CALLS.due(title, one(setUp, name + "(" + (cells + past) + ")"), "throws." + INDEX);
                    CALLS.due(title, one(setUp, name + "(" + (-1 - past) + ")"), "throws." + INDEX);
                }
                for (String name : CARD_CALLS) {
                    CALLS.due(title, one(setUp, name + "(" + (cards + past) + ")"), "throws." + INDEX);
                    CALLS.due(title, one(setUp, name + "(" + (-1 - past) + ")"), "throws." + INDEX);
                }
            }
            // Were these refused too, the calls above would say nothing of which cells and cards there are.
            taken(title, setUp, "begin(" + (cells - 1) + ")");
            taken(title, setUp, "start(" + (cards - 1) + ")");
        }
    }

    private static void illegalArgumentAsTold() {
        String title = "\"IllegalArgumentException as told.\"";
        for (String[] setUp : ROWS) {
            for (String call : new String[] {"space(0)", "space(-1)", "space(16385)", "count(-1)", "count(5)"}) {
                CALLS.due(title + " " + call, one(setUp, call), "throws." + ARGUMENT);
            }
            for (String call : new String[] {"space(1)", "space(16384)", "count(0)", "count(4)"}) {
                taken(title, setUp, call);
            }
        }
    }

    private static void changesNothing() {
        String title = "\"Such a call changes nothing.\"";
        for (String[] setUp : ROWS) {
            int cells = number(setUp, "count(0)");
            int cards = number(setUp, "count(1)");
            CALLS.refuses(title, ARGUMENT, setUp, "space(0)", "space(16385)", "count(-1)", "count(5)");
            for (String name : CELL_CALLS) {
                CALLS.refuses(title, INDEX, setUp, name + "(-1)", name + "(" + cells + ")");
            }
            for (String name : CARD_CALLS) {
                CALLS.refuses(title, INDEX, setUp, name + "(-1)", name + "(" + cards + ")");
            }
            // In each of these, one of the two ends alone would do.
            CALLS.refuses(title, INDEX, setUp, "make(-1, 1)", "make(0, " + (cells + 1) + ")", "make(0, 0)",
                    "make(" + (cells - 1) + ", " + (cells - 1) + ")", "make(" + cells + ", " + cells + ")");
        }
    }
}
