/** Long runs of calls, and every call on a small row, against the plain row. */
public final class ModelTest {
    private static final Calls CALLS = new Calls();
    private static final String[] CELL_CALLS = {"cut", "cut", "cut", "join", "begin", "size"};
    private static final int[] CELLS = {1, 2, 31, 32, 33, 64, 65, 100, 1000, 1024, 4097, 16383, 16384};
    private long seed;

    private ModelTest(long seed) {
        this.seed = seed;
    }

    public static void main(String[] args) {
        for (int run = 1; run <= 400; run++) {
            new ModelTest(run).longRun(run);
        }
        everyCallOnSmallRows();
        CALLS.end();
    }

    /** A number from least to most, the same in every run of the test. */
    private int pick(int least, int most) {
        seed = seed * 6364136223846793005L + 1442695040888963407L;
        return least + (int) ((seed >>> 33) % (most - least + 1));
    }

    private void longRun(int run) {
        StartTable table = new StartTable();
        PlainRow row = new PlainRow();
        String first = "space(" + CELLS[run % CELLS.length] + ")";
        both("run " + run, table, row, first);
        // How often pieces grow differs from run to run, so that rows of few and of many pieces come up.
        int makes = run % 4 * 10;
        for (int i = 1; i < 512; i++) {
            both("run " + run + ", call " + i, table, row, anyCall(row, makes));
        }
    }

    private String anyCall(PlainRow row, int makes) {
        int cells = row.count(0);
        int cards = row.count(1);
        int kind = pick(0, 199);
        if (kind == 0) {
            return "space(" + (pick(0, 3) == 0 ? pick(-1, 16386) : CELLS[pick(0, CELLS.length - 1)]) + ")";
        }
        if (kind <= makes) {
            int from = pick(-1, cells);
            int to = pick(0, 2) == 0 ? pick(-1, cells + 1) : from + pick(0, 70);
            return "make(" + from + ", " + to + ")";
        }
        if (kind < 80) {
            return (pick(0, 1) == 0 ? "start(" : "begins(") + pick(-1, cards) + ")";
        }
        if (kind < 100) {
            return "count(" + pick(-1, 5) + ")";
        }
        return CELL_CALLS[pick(0, CELL_CALLS.length - 1)] + "(" + anyCell(cells) + ")";
    }

    private int anyCell(int cells) {
        if (pick(0, 3) == 0) {
            return 32 * pick(0, (cells + 31) / 32) + pick(-1, 1);
        }
        // Cells close to one another, so that pieces of one cell and full cards come up.
        return pick(0, 1) == 0 ? pick(-1, cells) : Math.min(cells, pick(-1, 80));
    }

    private static void everyCallOnSmallRows() {
        for (int cells : new int[] {1, 33, 64, 70}) {
            for (int from = -1; from <= cells; from++) {
                onSmallRow(cells, "cut(" + from + ")");
                onSmallRow(cells, "join(" + from + ")");
                for (int to = -1; to <= cells + 1; to++) {
                    onSmallRow(cells, "make(" + from + ", " + to + ")");
                }
            }
        }
    }

    private static void onSmallRow(int cells, String call) {
        StartTable table = new StartTable();
        PlainRow row = new PlainRow();
        String where = "of " + cells + " cells";
        for (String ahead : new String[] {"space(" + cells + ")", "cut(9)", "cut(31)", "cut(32)", "cut(63)"}) {
            both(where, table, row, ahead);
        }
        both(where, table, row, call);
        CALLS.due(where + ": the state behind " + call, Calls.state(table), Calls.state(row));
    }

    private static void both(String where, StartTable table, PlainRow row, String call) {
        CALLS.due(where + ": " + call, Calls.answer(table, call), Calls.answer(row, call));
    }
}
