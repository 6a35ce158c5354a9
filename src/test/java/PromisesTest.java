/** For each promise: ordinary inputs, the edges that the document names, and wrong inputs. */
public final class PromisesTest {
    private static final Calls CALLS = new Calls();
    private static final String INDEX = "IndexOutOfBoundsException";
    private static final String ARGUMENT = "IllegalArgumentException";
    private static final String LEAST = String.valueOf(Integer.MIN_VALUE);
    private static final String MOST = String.valueOf(Integer.MAX_VALUE);
    // Pieces over card borders, one on a border, and a last card with few cells.
    private static final String[] CUT_ROW = {"space(100)", "cut(10)", "cut(32)", "cut(70)", "cut(99)"};
    private static final String[] NEW_ROW = {};

    public static void main(String[] args) {
        newObject();
        space();
        cut();
        join();
        make();
        begin();
        size();
        start();
        begins();
        count();
        CALLS.end();
    }

    private static void newObject() {
        CALLS.run("promise 1", "count(0) = 1024", "count(1) = 32", "count(2) = 1", "count(3) = 1024",
                "count(4) = 1024", "begin(1023) = 0", "size(0) = 1024", "start(0) = 0", "start(31) = 0",
                "begins(0) = 1", "begins(1) = 0", "begins(31) = 0", "start(32) = throws." + INDEX,
                "size(1024) = throws." + INDEX);
        StartTable changed = new StartTable();
        StartTable other = new StartTable();
        String before = Calls.state(other);
        changed.cut(5);
        CALLS.due("promise 1: another object's state", Calls.state(other), before);
        CALLS.due("promise 1: an object made later", Calls.state(new StartTable()), before);
    }

    private static void space() {
        CALLS.run("promise 2", "cut(7) = 7", "cut(40) = 33", "space(100) = 1024", "count(0) = 100",
                "count(1) = 4", "count(2) = 1", "count(3) = 100", "count(4) = 100", "begin(50) = 0",
                "start(1) = 0", "start(3) = 0", "begins(0) = 1", "begins(1) = 0", "cut(99) = 99",
                "space(16384) = 100", "size(99) = 16384", "count(1) = 512", "start(511) = 0",
                "begins(3) = 0", "space(1) = 16384", "count(0) = 1", "count(1) = 1", "size(0) = 1",
                "space(1) = 1", "space(33) = 1", "count(1) = 2", "space(32) = 33", "count(1) = 1");
        CALLS.run("promise 2: the same number of cells", "cut(500) = 500", "space(1024) = 1024",
                "count(2) = 1", "start(31) = 0", "begins(15) = 0");
        CALLS.refuses("promise 2", ARGUMENT, CUT_ROW, "space(0)", "space(-1)", "space(16385)",
                "space(" + LEAST + ")", "space(" + MOST + ")");
    }

    private static void cut() {
        CALLS.run("promise 3", "cut(100) = 100", "cut(100) = 0", "cut(0) = 0", "count(2) = 2",
                "cut(64) = 64", "start(2) = 64", "start(3) = 64", "start(4) = 100", "start(31) = 100",
                "size(64) = 36", "cut(65) = 1", "start(2) = 64", "start(3) = 65", "begin(99) = 65",
                "cut(1023) = 923", "size(1023) = 1", "count(2) = 5", "cut(63) = 63", "start(2) = 64");
        CALLS.run("promise 3: the last of few cells", "space(33) = 1024", "cut(32) = 32", "start(1) = 32",
                "begins(1) = 1", "cut(31) = 31", "size(31) = 1", "count(2) = 3");
        CALLS.run("promise 3: the last of all cells", "space(16384) = 1024", "cut(16383) = 16383",
                "begin(16383) = 16383", "begin(16382) = 0", "start(511) = 0");
        CALLS.refuses("promise 3", INDEX, CUT_ROW, "cut(-1)", "cut(100)", "cut(127)",
                "cut(" + LEAST + ")", "cut(" + MOST + ")");
        CALLS.refuses("promise 3: new", INDEX, NEW_ROW, "cut(-1)", "cut(1024)");
    }

    private static void join() {
        CALLS.run("promise 4", "join(0) = 0", "join(1023) = 0", "count(2) = 1", "cut(100) = 100",
                "cut(200) = 100", "cut(201) = 1", "join(150) = 101", "count(2) = 3", "begin(200) = 100",
                "start(6) = 100", "start(7) = 201", "join(201) = 0", "count(2) = 3", "join(99) = 201",
                "start(6) = 0", "start(7) = 201", "begins(3) = 0", "join(0) = 1024", "count(2) = 1",
                "start(31) = 0", "begins(6) = 0", "join(512) = 0");
        CALLS.run("promise 4: at a card's border", "cut(32) = 32", "cut(64) = 32", "join(31) = 64",
                "start(1) = 0", "start(2) = 64", "join(0) = 1024", "start(2) = 0");
        CALLS.run("promise 4: a last piece of one cell", "cut(1023) = 1023", "join(1023) = 0",
                "join(1022) = 1024", "count(2) = 1");
        CALLS.refuses("promise 4", INDEX, CUT_ROW, "join(-1)", "join(100)", "join(127)",
                "join(" + LEAST + ")", "join(" + MOST + ")");
        CALLS.refuses("promise 4: new", INDEX, NEW_ROW, "join(-1)", "join(1024)");
    }

    private static void make() {
        CALLS.run("promise 5", "make(40, 200) = 3", "begin(39) = 0", "size(39) = 40", "size(40) = 160",
                "begin(200) = 200", "size(200) = 824", "start(1) = 0", "start(2) = 40", "start(6) = 40",
                "start(7) = 200", "make(40, 200) = 3", "make(100, 101) = 5", "size(99) = 60",
                "size(100) = 1", "size(101) = 99", "start(6) = 101", "make(40, 300) = 3", "begins(6) = 0",
                "begins(9) = 1", "make(0, 1024) = 1", "start(9) = 0");
        CALLS.run("promise 5: ends", "make(0, 1) = 2", "size(0) = 1", "size(1) = 1023",
                "make(1023, 1024) = 3", "size(1022) = 1022", "size(1023) = 1", "make(1, 1023) = 3",
                "make(0, 1023) = 2", "make(1, 1024) = 2", "size(0) = 1", "size(1) = 1023");
        CALLS.run("promise 5: many pieces at once", "cut(31) = 31", "cut(32) = 1", "cut(33) = 1",
                "cut(63) = 30", "cut(64) = 1", "cut(96) = 32", "make(32, 64) = 5", "start(1) = 32",
                "start(2) = 64", "begins(1) = 1", "make(31, 97) = 3", "start(1) = 31", "start(3) = 31",
                "start(4) = 97", "count(4) = 31");
        CALLS.refuses("promise 5", INDEX, CUT_ROW, "make(-1, 5)", "make(100, 101)", "make(100, 100)",
                "make(20, 20)", "make(20, 19)", "make(0, 0)", "make(0, -1)", "make(0, 101)",
                "make(99, 101)", "make(20, " + LEAST + ")", "make(20, " + MOST + ")",
                "make(" + MOST + ", " + LEAST + ")", "make(" + LEAST + ", 50)", "make(-1, 0)");
        CALLS.refuses("promise 5: new", INDEX, NEW_ROW, "make(0, 1025)", "make(1024, 1025)");
    }

    private static void begin() {
        CALLS.run("promise 6", "cut(10) = 10", "cut(31) = 21", "cut(64) = 33", "begin(0) = 0",
                "begin(9) = 0", "begin(10) = 10", "begin(30) = 10", "begin(31) = 31", "begin(32) = 31",
                "begin(63) = 31", "begin(64) = 64", "begin(1023) = 64");
        CALLS.refuses("promise 6", INDEX, CUT_ROW, "begin(-1)", "begin(100)", "begin(127)",
                "begin(" + LEAST + ")", "begin(" + MOST + ")");
        CALLS.refuses("promise 6: new", INDEX, NEW_ROW, "begin(-1)", "begin(1024)");
    }

    private static void size() {
        CALLS.run("promise 7", "cut(10) = 10", "cut(31) = 21", "cut(64) = 33", "size(0) = 10",
                "size(9) = 10", "size(10) = 21", "size(30) = 21", "size(31) = 33", "size(63) = 33",
                "size(64) = 960", "size(1023) = 960");
        CALLS.run("promise 7: a last card of few cells", "space(70) = 1024", "cut(65) = 65", "size(69) = 5",
                "size(64) = 65");
        CALLS.refuses("promise 7", INDEX, CUT_ROW, "size(-1)", "size(100)", "size(127)",
                "size(" + LEAST + ")", "size(" + MOST + ")");
        CALLS.refuses("promise 7: new", INDEX, NEW_ROW, "size(-1)", "size(1024)");
    }

    private static void start() {
        CALLS.run("promise 8", "cut(31) = 31", "start(0) = 0", "start(1) = 31", "start(31) = 31",
                "cut(33) = 2", "start(1) = 31", "start(2) = 33", "cut(32) = 1", "start(1) = 32",
                "start(2) = 33", "join(32) = 992", "start(2) = 32", "start(31) = 32");
        CALLS.run("promise 8: the last card", "space(97) = 1024", "start(3) = 0", "cut(96) = 96",
                "start(3) = 96", "start(4) = throws." + INDEX);
        CALLS.refuses("promise 8", INDEX, CUT_ROW, "start(-1)", "start(4)", "start(512)",
                "start(" + LEAST + ")", "start(" + MOST + ")");
        CALLS.refuses("promise 8: new", INDEX, NEW_ROW, "start(-1)", "start(32)");
    }

    private static void begins() {
        CALLS.run("promise 9", "begins(0) = 1", "cut(31) = 31", "cut(32) = 1", "cut(63) = 31",
                "cut(64) = 1", "begins(0) = 2", "begins(1) = 2", "begins(2) = 1", "begins(3) = 0",
                "join(31) = 32", "begins(0) = 2", "begins(1) = 1", "make(0, 64) = 2", "begins(0) = 1",
                "begins(1) = 0", "begins(2) = 1");
        StartTable full = new StartTable();
        for (int cell = 32; cell < 64; cell++) {
            full.cut(cell);
        }
        CALLS.due("promise 9: a full card", Calls.answer(full, "begins(1)"), "32");
        CALLS.refuses("promise 9", INDEX, CUT_ROW, "begins(-1)", "begins(4)", "begins(512)",
                "begins(" + LEAST + ")", "begins(" + MOST + ")");
        CALLS.refuses("promise 9: new", INDEX, NEW_ROW, "begins(-1)", "begins(32)");
    }

    private static void count() {
        CALLS.run("promise 10", "space(100) = 1024", "cut(30) = 30", "cut(90) = 60", "count(0) = 100",
                "count(1) = 4", "count(2) = 3", "count(3) = 60", "count(4) = 10", "cut(5) = 5",
                "count(2) = 4", "count(3) = 60", "count(4) = 5", "join(5) = 85", "count(3) = 85",
                "count(4) = 5", "join(0) = 90", "count(3) = 90", "count(4) = 10", "join(0) = 100",
                "count(3) = 100", "count(4) = 100");
        CALLS.run("promise 10: cards", "space(31) = 1024", "count(1) = 1", "space(32) = 31", "count(1) = 1",
                "space(33) = 32", "count(1) = 2", "space(64) = 33", "count(1) = 2", "space(16353) = 64",
                "count(1) = 512");
        CALLS.refuses("promise 10", ARGUMENT, CUT_ROW, "count(-1)", "count(5)",
                "count(" + LEAST + ")", "count(" + MOST + ")");
    }
}
