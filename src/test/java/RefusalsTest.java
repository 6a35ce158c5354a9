import java.util.ArrayList;
import java.util.List;
import java.util.TreeSet;

/**
 * "Such a call changes nothing.": for every method that refuses, arguments from the least int to the
 * greatest, on rows of several kinds. Whether one is refused is told by plain comparisons here.
 */
public final class RefusalsTest {
    private static final Calls CALLS = new Calls();
    private static final String INDEX = "throws.IndexOutOfBoundsException";
    private static final String ARGUMENT = "throws.IllegalArgumentException";
    private static final String[] CELL_CALLS = {"cut", "join", "begin", "size"};
    private static final String[] CARD_CALLS = {"start", "begins"};

    public static void main(String[] args) {
        row(1024, 32);
        row(1, 1, "space(1)");
        row(32, 1, "space(32)", "cut(31)");
        row(33, 2, "space(33)", "cut(32)", "cut(5)");
        row(100, 4, "space(100)", "cut(10)", "cut(32)", "cut(70)", "cut(99)");
        row(1024, 32, "make(40, 200)", "make(1000, 1024)");
        mostCells();
        afterCellsAreGone();
        manyInOneRun();
        CALLS.end();
    }

    private static void row(int cells, int cards, String... setUp) {
        for (String name : CELL_CALLS) {
            refusedOutside(name, 0, cells - 1, INDEX, setUp);
        }
        for (String name : CARD_CALLS) {
            refusedOutside(name, 0, cards - 1, INDEX, setUp);
        }
        refusedOutside("space", 1, 16384, ARGUMENT, setUp);
        refusedOutside("count", 0, 4, ARGUMENT, setUp);
        makeRefused(cells, setUp);
    }

    /** Powers of two with their neighbours, for faults of overflow and of casts, and the edges with theirs. */
    private static List<Integer> arguments(int... edges) {
        TreeSet<Integer> found = new TreeSet<>();
        for (int power = 0; power < 32; power++) {
            addAround(found, 1 << power);
            addAround(found, -(1 << power));
        }
        for (int edge : edges) {
            addAround(found, edge);
            // What a cast to short or char, or the sign bit taken off, would make into the edge.
            addAround(found, edge + 65536);
            addAround(found, edge + Integer.MIN_VALUE);
        }
        return new ArrayList<>(found);
    }

    private static void addAround(TreeSet<Integer> found, int value) {
        for (long near = value - 1L; near <= value + 1L; near++) {
            if (near >= Integer.MIN_VALUE && near <= Integer.MAX_VALUE) {
                found.add((int) near);
            }
        }
    }

    private static void refusedOutside(String name, int least, int most, String want, String... setUp) {
        List<String> refused = new ArrayList<>();
        for (int argument : arguments(least, most)) {
            String call = name + "(" + argument + ")";
            if (argument < least || argument > most) {
                refused.add(call);
            } else {
                answers(setUp, call);
            }
        }
        CALLS.keeps("behind " + String.join(" ", setUp), want, setUp, refused.toArray(new String[0]));
    }

    private static void makeRefused(int cells, String... setUp) {
        List<String> refused = new ArrayList<>();
        int[] values = {Integer.MIN_VALUE, Integer.MIN_VALUE + 1, -65536, -16384, -32, -1, 0, 1, 31, 32,
            cells - 1, cells, cells + 1, 16384, 16385, 65536, 65537, 1 << 30, Integer.MAX_VALUE - 1,
            Integer.MAX_VALUE};
        for (int from : values) {
            for (int to : values) {
                String call = "make(" + from + ", " + to + ")";
                if (from < 0 || from >= cells || to <= from || to > cells) {
                    refused.add(call);
                } else {
                    answers(setUp, call);
                }
            }
        }
        CALLS.keeps("behind " + String.join(" ", setUp), INDEX, setUp, refused.toArray(new String[0]));
    }

    private static void answers(String[] setUp, String call) {
        boolean thrown = Calls.answer(Calls.after(setUp), call).startsWith("throws.");
        CALLS.due(call + " behind " + String.join(" ", setUp), thrown ? "refused" : "taken", "taken");
    }

    /** The edges alone, because the state of so many cells is long. */
    private static void mostCells() {
        String[] setUp = {"space(16384)", "cut(31)", "cut(32)", "cut(16352)", "cut(16383)"};
        int least = Integer.MIN_VALUE;
        int most = Integer.MAX_VALUE;
        for (String name : CELL_CALLS) {
            CALLS.keeps("most cells", INDEX, setUp, name + "(-1)", name + "(16384)", name + "(16385)",
                    name + "(" + least + ")", name + "(" + most + ")");
        }
        for (String name : CARD_CALLS) {
            CALLS.keeps("most cells", INDEX, setUp, name + "(-1)", name + "(512)", name + "(513)",
                    name + "(" + least + ")", name + "(" + most + ")");
        }
        CALLS.keeps("most cells", ARGUMENT, setUp, "space(0)", "space(16385)", "space(" + least + ")",
                "space(" + most + ")", "count(-1)", "count(5)", "count(" + least + ")", "count(" + most + ")");
        CALLS.keeps("most cells", INDEX, setUp, "make(-1, 5)", "make(16384, 16385)", "make(16383, 16385)",
                "make(16383, 16383)", "make(0, " + most + ")", "make(" + most + ", " + least + ")",
                "make(" + least + ", " + most + ")");
    }

    /** Cells and cards of an earlier, longer row are not there any more. */
    private static void afterCellsAreGone() {
        String[] setUp = {"space(16384)", "cut(100)", "cut(16383)", "space(100)", "cut(64)"};
        for (String name : CELL_CALLS) {
            CALLS.keeps("cells gone", INDEX, setUp, name + "(100)", name + "(1023)", name + "(16383)");
        }
        for (String name : CARD_CALLS) {
            CALLS.keeps("cards gone", INDEX, setUp, name + "(4)", name + "(31)", name + "(511)");
        }
        CALLS.keeps("cells gone", INDEX, setUp, "make(0, 101)", "make(100, 101)", "make(64, 16384)");
    }

    private static void manyInOneRun() {
        String[] setUp = {"space(100)", "cut(10)", "cut(32)", "cut(70)", "cut(99)"};
        String[] refused = {"space(0)", "space(16385)", "cut(-1)", "cut(100)", "join(-1)", "join(100)",
            "make(-1, 5)", "make(5, 5)", "make(5, 101)", "begin(-1)", "begin(100)", "size(-1)", "size(100)",
            "start(-1)", "start(4)", "begins(-1)", "begins(4)", "count(-1)", "count(5)"};
        String before = Calls.state(Calls.after(setUp));
        CALLS.due("all refused calls in one run", Calls.state(Calls.after(Calls.and(setUp, refused))), before);
    }
}
