import java.util.Arrays;

/**
 * A row of cells that is tiled by pieces, and a table that tells for each card of it which piece
 * lies over its beginning, so that the piece of any cell is found by a few steps.
 */
public final class StartTable {
    private static final int FIRST_CELLS = 1024;
    private static final int MOST_CELLS = 16384;
    private static final int CARD_CELLS = 32;
    private static final int MOST_CARDS = MOST_CELLS / CARD_CELLS;

    // A card has as many cells as an int has bits, so one int holds the marks of a card:
    // bit i of marks[c] is set where a piece begins at cell 32 * c + i. Cell 0 is always marked,
    // and no bit stands for a cell from cells on.
    private final int[] marks;
    // starts[c] is where the piece begins that lies over the first cell of card c.
    private final int[] starts;
    private int cells;
    private int pieces;

    public StartTable() {
        marks = new int[MOST_CARDS];
        starts = new int[MOST_CARDS];
        layOnePiece(FIRST_CELLS);
    }

    public int space(int n) throws IllegalArgumentException {
        if (n < 1 || n > MOST_CELLS) {
            throw new IllegalArgumentException("there are 1 to 16384 cells");
        }
        int before = cells;
        layOnePiece(n);
        return before;
    }

    public int cut(int cell) throws IndexOutOfBoundsException {
        checkCell(cell);
        int ahead = cell - beginOf(cell);
        cutAt(cell);
        return ahead;
    }

    public int join(int cell) throws IndexOutOfBoundsException {
        checkCell(cell);
        int behind = endOf(cell);
        if (behind >= cells) {
            return 0;
        }
        int from = beginOf(cell);
        int to = endOf(behind);
        merge(from, to);
        return to - from;
    }

    public int make(int from, int to) throws IndexOutOfBoundsException {
        checkCell(from);
        if (to <= from || to > cells) {
            throw new IndexOutOfBoundsException("no such end of a piece");
        }
        cutAt(from);
        if (to < cells) {
            cutAt(to);
        }
        merge(from, to);
        return pieces;
    }

    public int begin(int cell) throws IndexOutOfBoundsException {
        checkCell(cell);
        return beginOf(cell);
    }

    public int size(int cell) throws IndexOutOfBoundsException {
        checkCell(cell);
        return endOf(cell) - beginOf(cell);
    }

    public int start(int card) throws IndexOutOfBoundsException {
        checkCard(card);
        return starts[card];
    }

    public int begins(int card) throws IndexOutOfBoundsException {
        checkCard(card);
        return Integer.bitCount(marks[card]);
    }

    public int count(int what) throws IllegalArgumentException {
        switch (what) {
            case 0:
                return cells;
            case 1:
                return cardCount();
            case 2:
                return pieces;
            case 3:
                return outermostSize(true);
            case 4:
                return outermostSize(false);
            default:
                throw new IllegalArgumentException("there is no such count");
        }
    }

    private void checkCell(int cell) {
        if (cell < 0 || cell >= cells) {
            throw new IndexOutOfBoundsException("no such cell");
        }
    }

    private void checkCard(int card) {
        if (card < 0 || card >= cardCount()) {
            throw new IndexOutOfBoundsException("no such card");
        }
    }

    private int cardCount() {
        return (cells + CARD_CELLS - 1) / CARD_CELLS;
    }

    private void layOnePiece(int n) {
        Arrays.fill(marks, 0);
        Arrays.fill(starts, 0);
        marks[0] = 1;
        cells = n;
        pieces = 1;
    }

    private int beginOf(int cell) {
        int card = cell / CARD_CELLS;
        int upToCell = -1 >>> (CARD_CELLS - 1 - cell % CARD_CELLS);
        int found = marks[card] & upToCell;
        if (found == 0) {
            return starts[card];
        }
        return card * CARD_CELLS + CARD_CELLS - 1 - Integer.numberOfLeadingZeros(found);
    }

    private int endOf(int cell) {
        return firstBeginFrom(cell + 1);
    }

    // Answers cells where no piece begins any more, because there the last piece ends.
    private int firstBeginFrom(int cell) {
        int wanted = -1 << (cell % CARD_CELLS);
        int cards = cardCount();
        for (int card = cell / CARD_CELLS; card < cards; card++) {
            int found = marks[card] & wanted;
            if (found != 0) {
                return card * CARD_CELLS + Integer.numberOfTrailingZeros(found);
            }
            wanted = -1;
        }
        return cells;
    }

    private void cutAt(int cell) {
        if (beginOf(cell) == cell) {
            return;
        }
        marks[cell / CARD_CELLS] |= bitOf(cell);
        pieces++;
        tellStarts(cell, endOf(cell));
    }

    // A piece begins at from, and none lies over both sides of to.
    private void merge(int from, int to) {
        int most = pieces;
        int behind = endOf(from);
        for (int i = 0; i < most && behind < to; i++) {
            marks[behind / CARD_CELLS] &= ~bitOf(behind);
            pieces--;
            behind = endOf(behind);
        }
        tellStarts(from, to);
    }

    private static int bitOf(int cell) {
        return 1 << (cell % CARD_CELLS);
    }

    private void tellStarts(int from, int to) {
        int firstCard = (from + CARD_CELLS - 1) / CARD_CELLS;
        int cardsEnd = (to + CARD_CELLS - 1) / CARD_CELLS;
        for (int card = firstCard; card < cardsEnd; card++) {
            starts[card] = from;
        }
    }

    private int outermostSize(boolean greatest) {
        int outermost = endOf(0);
        int from = outermost;
        for (int i = 1; i < pieces; i++) {
            int to = endOf(from);
            int pieceSize = to - from;
            outermost = greatest ? Math.max(outermost, pieceSize) : Math.min(outermost, pieceSize);
            from = to;
        }
        return outermost;
    }
}
