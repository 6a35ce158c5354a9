/** The document in its plainest form, to compare with: for each cell, whether a piece begins there. */
final class PlainRow {
    private boolean[] begun;

    PlainRow() {
        lay(1024);
    }

    /** A row of n cells with pieces that begin at the cells given. */
    static PlainRow of(int n, int... begins) {
        PlainRow row = new PlainRow();
        row.lay(n);
        for (int cell : begins) {
            row.begun[cell] = true;
        }
        return row;
    }

    private void lay(int n) {
        begun = new boolean[n];
        begun[0] = true;
    }

    private void cell(int cell) {
        if (cell < 0 || cell >= begun.length) {
            throw new IndexOutOfBoundsException();
        }
    }

    private void card(int card) {
        if (card < 0 || card >= count(1)) {
            throw new IndexOutOfBoundsException();
        }
    }

    int space(int n) {
        if (n < 1 || n > 16384) {
            throw new IllegalArgumentException();
        }
        int before = begun.length;
        lay(n);
        return before;
    }

    int cut(int cell) {
        int ahead = cell - begin(cell);
        begun[cell] = true;
        return ahead;
    }

    int join(int cell) {
        int end = begin(cell) + size(cell);
        if (end == begun.length) {
            return 0;
        }
        begun[end] = false;
        return size(cell);
    }

    int make(int from, int to) {
        cell(from);
        if (to <= from || to > begun.length) {
            throw new IndexOutOfBoundsException();
        }
        for (int i = from; i < to; i++) {
            begun[i] = i == from;
        }
        if (to < begun.length) {
            begun[to] = true;
        }
        return count(2);
    }

    int begin(int cell) {
        cell(cell);
        int at = cell;
        while (!begun[at]) {
            at--;
        }
        return at;
    }

    int size(int cell) {
        cell(cell);
        int end = cell + 1;
        while (end < begun.length && !begun[end]) {
            end++;
        }
        return end - begin(cell);
    }

    int start(int card) {
        card(card);
        return begin(32 * card);
    }

    int begins(int card) {
        card(card);
        int found = 0;
        for (int i = 32 * card; i < 32 * card + 32 && i < begun.length; i++) {
            found += begun[i] ? 1 : 0;
        }
        return found;
    }

    int count(int what) {
        if (what < 0 || what > 4) {
            throw new IllegalArgumentException();
        }
        int pieces = 0;
        int greatest = 0;
        int least = begun.length;
        for (int i = 0; i < begun.length; i++) {
            if (begun[i]) {
                pieces++;
                greatest = Math.max(greatest, size(i));
                least = Math.min(least, size(i));
            }
        }
        return new int[] {begun.length, (begun.length + 31) / 32, pieces, greatest, least}[what];
    }
}
