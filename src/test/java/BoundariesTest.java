import java.util.Arrays;

/**
 * Each sentence of the document that names a boundary case: the case itself and its neighbour on the
 * other side of the boundary, with written answers. The titles cite the sentences.
 */
public final class BoundariesTest {
    private static final Calls CALLS = new Calls();
    private static final String INDEX = "IndexOutOfBoundsException";
    private static final String ARGUMENT = "IllegalArgumentException";
    private static final String NO_INDEX = " = throws." + INDEX;
    private static final String NO_ARGUMENT = " = throws." + ARGUMENT;
    private static final String[] NEW_ROW = {};
    private static final String[] ONE_CELL = {"space(1)"};
    private static final String[] TWO_CELLS = {"space(2)", "cut(1)"};
    private static final String[] MOST_CELLS = {"space(16384)"};
    // The pieces begin at 0, 10, 32, 70 and 99: over card borders, on one, and a last one of one cell.
    private static final String[] CUT_ROW = {"space(100)", "cut(10)", "cut(32)", "cut(70)", "cut(99)"};
    private static final String[] CUT_ROW_ANSWERED = {"space(100) = 1024", "cut(10) = 10", "cut(32) = 22",
        "cut(70) = 38", "cut(99) = 29"};

    public static void main(String[] args) {
        newObject();
        leastSpace();
        greatestSpace();
        everySpace();
        onePieceFromNowOn();
        cutWhereOneBegan();
        cutFirstCell();
        cutLastCell();
        cutAtCardBorders();
        joinWithNoneBehind();
        joinNoSuchCell();
        makeLeavesPiecesAhead();
        makeLeavesPiecesBehind();
        makeOverManyPieces();
        makeFromNoCell();
        makeToNoEnd();
        begin();
        size();
        startOfFirstAndLastCard();
        startOfLastCardWithFewCells();
        startAroundCardsFirstCell();
        beginsNone();
        beginsMany();
        beginsOnLastCard();
        countCellsAndCards();
        countPiecesAndSizes();
        countNoneOfThese();
        CALLS.end();
    }

    private static void cutRow(String title, String tiling, String row) {
        CALLS.tiled(title, tiling, Calls.and(CUT_ROW_ANSWERED, row));
    }

    private static void newObject() {
        CALLS.tiled("1 \"1024 cells, one piece.\"", "0 : 1024");
        CALLS.run("1 the first and the last cell", "begin(0) = 0", "begin(1023) = 0", "size(0) = 1024",
                "size(1023) = 1024", "begin(-1)" + NO_INDEX, "begin(1024)" + NO_INDEX);
        CALLS.run("1 the first and the last card", "start(0) = 0", "start(31) = 0", "begins(0) = 1",
                "begins(31) = 0", "start(-1)" + NO_INDEX, "start(32)" + NO_INDEX, "begins(32)" + NO_INDEX);
        CALLS.run("1 the cells there were", "space(1024) = 1024");
        CALLS.run("1 none behind the one piece", "join(1023) = 0");
    }

    private static void leastSpace() {
        CALLS.tiled("2 the least n", "0 : 1", "space(1) = 1024");
        CALLS.tiled("2 one more than the least n", "0 : 2", "space(2) = 1024");
        CALLS.refuses("2 one less than the least n", ARGUMENT, NEW_ROW, "space(0)");
        CALLS.refuses("2 one less than the least n, cut", ARGUMENT, CUT_ROW, "space(0)");
        CALLS.run("2 the one cell and the one card of the least n", "space(1) = 1024", "begin(0) = 0",
                "begin(1)" + NO_INDEX, "start(0) = 0", "start(1)" + NO_INDEX, "begins(0) = 1",
                "begins(1)" + NO_INDEX, "space(1) = 1");
    }

    private static void greatestSpace() {
        CALLS.tiled("2 the greatest n", "0 : 16384", "space(16384) = 1024");
        CALLS.tiled("2 one less than the greatest n", "0 : 16383", "space(16383) = 1024");
        CALLS.refuses("2 one more than the greatest n", ARGUMENT, NEW_ROW, "space(16385)");
        CALLS.refuses("2 one more than the greatest n, cut", ARGUMENT, CUT_ROW, "space(16385)");
        CALLS.run("2 the last cell and card of the greatest n", "space(16384) = 1024", "begin(16383) = 0",
                "begin(16384)" + NO_INDEX, "start(511) = 0", "start(512)" + NO_INDEX, "begins(511) = 0",
                "begins(512)" + NO_INDEX, "space(16384) = 16384");
    }

    private static void everySpace() {
        for (int n = 1; n <= 16384; n++) {
            int cards = n % 32 == 0 ? n / 32 : n / 32 + 1;
            int last = n - 1;
            CALLS.run("2 \"There are n cells from now on\", n = " + n, "cut(40) = 40",
                    "space(" + n + ") = 1024", "count(0) = " + n, "count(1) = " + cards, "count(2) = 1",
                    "size(" + last + ") = " + n, "size(" + n + ")" + NO_INDEX,
                    "start(" + (cards - 1) + ") = 0", "start(" + cards + ")" + NO_INDEX,
                    "cut(" + last + ") = " + last, "cut(" + n + ")" + NO_INDEX, "space(5) = " + n);
        }
    }

    private static void onePieceFromNowOn() {
        CALLS.tiled("2 \"one piece\" behind cuts, as many cells", "0 : 100",
                Calls.and(CUT_ROW_ANSWERED, "space(100) = 100"));
        CALLS.tiled("2 \"one piece\" behind cuts, one cell less", "0 : 99",
                Calls.and(CUT_ROW_ANSWERED, "space(99) = 100"));
        CALLS.tiled("2 \"one piece\" behind cuts, one cell more", "0 : 101",
                Calls.and(CUT_ROW_ANSWERED, "space(101) = 100"));
        CALLS.tiled("2 cuts do not come back with their cells", "0 : 16384", "space(16384) = 1024",
                "cut(31) = 31", "cut(5000) = 4969", "cut(16383) = 11383", "space(1) = 16384",
                "space(16384) = 1");
        CALLS.run("2 \"how many cells there were\" behind refused calls", "space(6) = 1024",
                "space(0)" + NO_ARGUMENT, "space(16385)" + NO_ARGUMENT, "space(7) = 6", "space(8) = 7");
    }

    private static void cutWhereOneBegan() {
        CALLS.keeps("3 \"0 if one began there (nothing changes)\"", "0", CUT_ROW, "cut(0)", "cut(10)",
                "cut(32)", "cut(70)", "cut(99)");
        cutRow("3 one ahead of where one began", "0 9 10 32 70 99 : 100", "cut(9) = 9");
        cutRow("3 one behind where one began", "0 10 11 32 70 99 : 100", "cut(11) = 1");
        cutRow("3 one ahead of where one began on a border", "0 10 31 32 70 99 : 100", "cut(31) = 21");
        cutRow("3 one behind where one began on a border", "0 10 32 33 70 99 : 100", "cut(33) = 1");
        cutRow("3 one ahead of the last piece", "0 10 32 70 98 99 : 100", "cut(98) = 28");
        CALLS.keeps("3 where a made piece begins, and the one left behind it", "0",
                new String[] {"make(40, 200)"}, "cut(40)", "cut(200)");
        CALLS.tiled("3 where one began until it was joined", "0 10 : 1024", "cut(10) = 10", "join(0) = 1024",
                "cut(10) = 10");
    }

    private static void cutFirstCell() {
        CALLS.keeps("3 the first cell of a new row", "0", NEW_ROW, "cut(0)");
        CALLS.keeps("3 the first cell of one", "0", ONE_CELL, "cut(0)");
        CALLS.keeps("3 the first cell of most cells", "0", MOST_CELLS, "cut(0)");
        CALLS.tiled("3 the cell behind the first", "0 1 : 1024", "cut(1) = 1");
        CALLS.refuses("3 ahead of the first cell", INDEX, NEW_ROW, "cut(-1)");
        CALLS.refuses("3 ahead of the first cell, cut", INDEX, CUT_ROW, "cut(-1)");
    }

    private static void cutLastCell() {
        CALLS.tiled("3 the last cell of a new row", "0 1023 : 1024", "cut(1023) = 1023");
        CALLS.tiled("3 the cell ahead of the last", "0 1022 : 1024", "cut(1022) = 1022");
        CALLS.refuses("3 behind the last cell", INDEX, NEW_ROW, "cut(1024)");
        CALLS.tiled("3 the last cell of two", "0 1 : 2", "space(2) = 1024", "cut(1) = 1");
        CALLS.refuses("3 behind the last cell of two", INDEX, TWO_CELLS, "cut(2)");
        CALLS.refuses("3 behind the one cell", INDEX, ONE_CELL, "cut(1)");
        CALLS.tiled("3 the last of most cells", "0 16383 : 16384", "space(16384) = 1024",
                "cut(16383) = 16383");
        CALLS.refuses("3 behind the last of most cells", INDEX, MOST_CELLS, "cut(16384)");
        CALLS.refuses("3 a last card's cells that are not there", INDEX, CUT_ROW, "cut(100)", "cut(127)",
                "cut(128)");
    }

    private static void cutAtCardBorders() {
        CALLS.tiled("3 the last cell of a card", "0 31 : 1024", "cut(31) = 31");
        CALLS.tiled("3 the first cell of a card", "0 32 : 1024", "cut(32) = 32");
        CALLS.tiled("3 the second cell of a card", "0 33 : 1024", "cut(33) = 33");
        CALLS.tiled("3 a piece over many cards", "0 31 500 993 : 1024", "cut(31) = 31", "cut(993) = 962",
                "cut(500) = 469");
    }

    private static void joinWithNoneBehind() {
        CALLS.keeps("4 \"0 if there is none behind it (nothing changes)\", one piece", "0", NEW_ROW,
                "join(0)", "join(31)", "join(32)", "join(1023)");
        CALLS.keeps("4 none behind the last piece, of one cell", "0", CUT_ROW, "join(99)");
        cutRow("4 the cell ahead of the last piece", "0 10 32 70 : 100", "join(98) = 30");
        String[] lastOfTwo = {"space(100)", "cut(98)"};
        CALLS.keeps("4 none behind the last piece, of two cells", "0", lastOfTwo, "join(98)", "join(99)");
        CALLS.tiled("4 one behind, of two cells", "0 : 100", "space(100) = 1024", "cut(98) = 98",
                "join(97) = 100");
        CALLS.keeps("4 none behind the one cell", "0", ONE_CELL, "join(0)");
        CALLS.keeps("4 none behind the last of two cells", "0", TWO_CELLS, "join(1)");
        CALLS.tiled("4 the first of two cells", "0 : 2", "space(2) = 1024", "cut(1) = 1", "join(0) = 2");
        CALLS.keeps("4 none behind, of most cells", "0", Calls.and(MOST_CELLS, "cut(16383)"), "join(16383)");
        CALLS.tiled("4 one behind, of most cells", "0 : 16384", "space(16384) = 1024",
                "cut(16383) = 16383", "join(16382) = 16384");
        CALLS.run("4 none behind any more", "cut(512) = 512", "join(511) = 1024", "join(511) = 0",
                "join(512) = 0");
    }

    private static void joinNoSuchCell() {
        CALLS.refuses("4 behind the last cell", INDEX, NEW_ROW, "join(1024)");
        CALLS.refuses("4 ahead of the first cell", INDEX, NEW_ROW, "join(-1)");
        CALLS.refuses("4 not there, one cell", INDEX, ONE_CELL, "join(1)", "join(-1)");
        CALLS.refuses("4 not there, cut", INDEX, CUT_ROW, "join(-1)", "join(100)", "join(127)", "join(128)");
        CALLS.refuses("4 not there, most cells", INDEX, MOST_CELLS, "join(16384)", "join(-1)");
        cutRow("4 the first cell", "0 32 70 99 : 100", "join(0) = 32");
        cutRow("4 the last cell of the first piece", "0 32 70 99 : 100", "join(9) = 32");
        cutRow("4 the first cell of the second piece", "0 10 70 99 : 100", "join(10) = 60");
    }

    private static void makeLeavesPiecesAhead() {
        String title = "5 \"what is left of pieces over its ends pieces of their own\", ahead: ";
        cutRow(title + "nothing", "0 10 32 60 70 99 : 100", "make(32, 60) = 6");
        cutRow(title + "one cell", "0 10 32 33 60 70 99 : 100", "make(33, 60) = 7");
        cutRow(title + "all but one cell", "0 10 31 60 70 99 : 100", "make(31, 60) = 6");
        cutRow(title + "nothing, from the first cell", "0 60 70 99 : 100", "make(0, 60) = 4");
        cutRow(title + "the first cell", "0 1 60 70 99 : 100", "make(1, 60) = 5");
    }

    private static void makeLeavesPiecesBehind() {
        String title = "5 \"what is left of pieces over its ends pieces of their own\", behind: ";
        cutRow(title + "nothing", "0 10 32 40 70 99 : 100", "make(40, 70) = 6");
        cutRow(title + "one cell", "0 10 32 40 69 70 99 : 100", "make(40, 69) = 7");
        cutRow(title + "all but one cell", "0 10 32 40 71 99 : 100", "make(40, 71) = 6");
        cutRow(title + "nothing, to the end", "0 10 32 40 : 100", "make(40, 100) = 4");
        cutRow(title + "the last cell", "0 10 32 40 99 : 100", "make(40, 99) = 5");
        cutRow(title + "two cells at the end", "0 10 32 40 98 99 : 100", "make(40, 98) = 6");
    }

    private static void makeOverManyPieces() {
        CALLS.tiled("5 both ends in one piece", "0 40 200 : 1024", "make(40, 200) = 3");
        cutRow("5 both ends in one of many pieces", "0 10 32 40 60 70 99 : 100", "make(40, 60) = 7");
        cutRow("5 ends in the first and the last but one", "0 5 80 99 : 100", "make(5, 80) = 4");
        cutRow("5 all cells", "0 : 100", "make(0, 100) = 1");
        cutRow("5 all cells but the first", "0 1 : 100", "make(1, 100) = 2");
        cutRow("5 all cells but the last", "0 99 : 100", "make(0, 99) = 2");
        CALLS.keeps("5 a piece that is there", "5", CUT_ROW, "make(0, 10)", "make(10, 32)", "make(32, 70)",
                "make(70, 99)", "make(99, 100)");
        CALLS.keeps("5 the one piece that is there", "1", NEW_ROW, "make(0, 1024)");
        CALLS.keeps("5 the one cell", "1", ONE_CELL, "make(0, 1)");
        CALLS.keeps("5 each of two cells", "2", TWO_CELLS, "make(0, 1)", "make(1, 2)");
        CALLS.tiled("5 all of most cells", "0 : 16384", "space(16384) = 1024", "cut(32) = 32",
                "cut(16352) = 16320", "make(0, 16384) = 1");
    }

    private static void makeFromNoCell() {
        CALLS.refuses("5 \"from is no cell\", ahead of the first", INDEX, CUT_ROW, "make(-1, 0)",
                "make(-1, 1)", "make(-1, 100)");
        cutRow("5 from the first cell", "0 1 10 32 70 99 : 100", "make(0, 1) = 6");
        CALLS.refuses("5 \"from is no cell\", behind the last", INDEX, CUT_ROW, "make(100, 99)",
                "make(100, 100)", "make(100, 101)");
        cutRow("5 from the last cell", "0 10 32 70 99 : 100", "make(99, 100) = 5");
        cutRow("5 from the last cell but one", "0 10 32 70 98 : 100", "make(98, 100) = 5");
        CALLS.refuses("5 from no cell, one cell", INDEX, ONE_CELL, "make(1, 1)", "make(1, 2)", "make(-1, 0)",
                "make(-1, 1)");
        CALLS.refuses("5 from no cell, most cells", INDEX, MOST_CELLS, "make(16384, 16384)",
                "make(16384, 16385)", "make(-1, 16384)");
        CALLS.tiled("5 from the last of most cells", "0 16383 : 16384", "space(16384) = 1024",
                "make(16383, 16384) = 2");
    }

    private static void makeToNoEnd() {
        CALLS.refuses("5 \"to is not from + 1 .. n\", too small", INDEX, CUT_ROW, "make(0, 0)", "make(0, -1)",
                "make(20, 20)", "make(20, 19)", "make(32, 32)", "make(99, 99)", "make(99, 0)");
        cutRow("5 to is from + 1", "0 10 20 21 32 70 99 : 100", "make(20, 21) = 7");
        CALLS.refuses("5 \"to is not from + 1 .. n\", too large", INDEX, CUT_ROW, "make(0, 101)",
                "make(20, 101)", "make(99, 101)", "make(20, 127)", "make(20, 128)");
        cutRow("5 to is n", "0 10 20 : 100", "make(20, 100) = 3");
        CALLS.refuses("5 to no end, new", INDEX, NEW_ROW, "make(0, 1025)", "make(1023, 1023)");
        CALLS.refuses("5 to no end, one cell", INDEX, ONE_CELL, "make(0, 0)", "make(0, 2)");
        CALLS.refuses("5 to no end, most cells", INDEX, MOST_CELLS, "make(0, 16385)",
                "make(16383, 16383)", "make(16383, 16385)");
    }

    private static void begin() {
        CALLS.run("6 the first and the last cell of each piece", Calls.and(CUT_ROW_ANSWERED, "begin(0) = 0",
                "begin(9) = 0", "begin(10) = 10", "begin(31) = 10", "begin(32) = 32", "begin(69) = 32",
                "begin(70) = 70", "begin(98) = 70", "begin(99) = 99"));
        CALLS.refuses("6 \"IndexOutOfBoundsException.\"", INDEX, CUT_ROW, "begin(-1)", "begin(100)",
                "begin(127)", "begin(128)");
        CALLS.refuses("6 not there, one cell", INDEX, ONE_CELL, "begin(1)", "begin(-1)");
        CALLS.refuses("6 not there, most cells", INDEX, MOST_CELLS, "begin(16384)", "begin(-1)");
        CALLS.keeps("6 asking changes nothing", "32", CUT_ROW, "begin(32)", "begin(50)", "begin(69)");
    }

    private static void size() {
        CALLS.run("7 the first and the last cell of each piece", Calls.and(CUT_ROW_ANSWERED, "size(0) = 10",
                "size(9) = 10", "size(10) = 22", "size(31) = 22", "size(32) = 38", "size(69) = 38",
                "size(70) = 29", "size(98) = 29", "size(99) = 1"));
        CALLS.refuses("7 \"IndexOutOfBoundsException.\"", INDEX, CUT_ROW, "size(-1)", "size(100)",
                "size(127)", "size(128)");
        CALLS.refuses("7 not there, one cell", INDEX, ONE_CELL, "size(1)", "size(-1)");
        CALLS.refuses("7 not there, most cells", INDEX, MOST_CELLS, "size(16384)", "size(-1)");
        CALLS.keeps("7 asking changes nothing", "38", CUT_ROW, "size(32)", "size(50)", "size(69)");
        CALLS.keeps("7 the greatest size there may be", "16384", MOST_CELLS, "size(0)", "size(16383)");
        CALLS.keeps("7 the least size there may be", "1", ONE_CELL, "size(0)");
    }

    private static void startOfFirstAndLastCard() {
        CALLS.run("8 the first card", "start(0) = 0", "cut(1) = 1", "start(0) = 0", "cut(32) = 31",
                "start(0) = 0", "start(-1)" + NO_INDEX);
        CALLS.run("8 the last card, full", "start(31) = 0", "cut(991) = 991", "start(31) = 991",
                "cut(993) = 2", "start(31) = 991", "cut(992) = 1", "start(31) = 992",
                "start(32)" + NO_INDEX);
        CALLS.run("8 the last card there may be", "space(16384) = 1024", "cut(16352) = 16352",
                "start(511) = 16352", "start(510) = 0", "start(512)" + NO_INDEX);
        CALLS.refuses("8 a card that is not there", INDEX, CUT_ROW, "start(-1)", "start(4)", "start(99)");
        CALLS.refuses("8 a card that is not there, one cell", INDEX, ONE_CELL, "start(-1)", "start(1)");
        CALLS.refuses("8 a card that is not there, most cells", INDEX, MOST_CELLS, "start(-1)", "start(512)");
        CALLS.keeps("8 asking changes nothing", "32", CUT_ROW, "start(1)", "start(2)");
    }

    private static void startOfLastCardWithFewCells() {
        CALLS.run("8 \"the last one perhaps fewer\": 1 cell", "space(33) = 1024", "start(1) = 0",
                "cut(31) = 31", "start(1) = 31", "cut(32) = 1", "start(1) = 32", "start(2)" + NO_INDEX);
        CALLS.run("8 no cell on a second card", "space(32) = 1024", "start(0) = 0", "start(1)" + NO_INDEX);
        CALLS.run("8 31 cells on the first and last card", "space(31) = 1024", "start(0) = 0",
                "start(1)" + NO_INDEX);
        CALLS.run("8 31 cells on the last card", "space(63) = 1024", "cut(62) = 62", "start(1) = 0",
                "start(2)" + NO_INDEX);
        CALLS.run("8 32 cells on the last card", "space(64) = 1024", "cut(32) = 32", "start(1) = 32",
                "start(2)" + NO_INDEX);
        CALLS.run("8 1 cell on card 511", "space(16353) = 1024", "cut(16352) = 16352", "start(511) = 16352",
                "start(512)" + NO_INDEX);
        CALLS.run("8 no cell on card 511", "space(16352) = 1024", "start(510) = 0", "start(511)" + NO_INDEX);
    }

    private static void startAroundCardsFirstCell() {
        CALLS.run("8 a piece from the card's first cell", "cut(64) = 64", "start(1) = 0", "start(2) = 64",
                "start(3) = 64");
        CALLS.run("8 a piece from the cell ahead", "cut(63) = 63", "start(1) = 0", "start(2) = 63",
                "start(3) = 63");
        CALLS.run("8 a piece from the cell behind", "cut(65) = 65", "start(1) = 0", "start(2) = 0",
                "start(3) = 65");
        CALLS.run("8 made up to the card's first cell", "make(10, 64) = 3", "start(1) = 10", "start(2) = 64");
        CALLS.run("8 made over the card's first cell", "make(10, 65) = 3", "start(1) = 10", "start(2) = 10",
                "start(3) = 65");
        CALLS.run("8 joined over the card's first cell", "cut(63) = 63", "cut(64) = 1", "join(63) = 961",
                "start(2) = 63", "start(31) = 63");
    }

    private static void beginsNone() {
        CALLS.run("9 a card on which none begins", "begins(1) = 0", "cut(31) = 31", "begins(1) = 0",
                "cut(64) = 33", "begins(1) = 0", "begins(0) = 2", "begins(2) = 1");
        CALLS.run("9 one begins at its first cell", "cut(32) = 32", "begins(0) = 1", "begins(1) = 1",
                "begins(2) = 0", "join(0) = 1024", "begins(1) = 0");
        CALLS.run("9 one begins at its last cell", "cut(63) = 63", "begins(0) = 1", "begins(1) = 1",
                "begins(2) = 0", "make(0, 64) = 2", "begins(1) = 0", "begins(2) = 1");
        CALLS.keeps("9 asking changes nothing", "0", NEW_ROW, "begins(1)", "begins(31)");
    }

    private static void beginsMany() {
        StartTable table = new StartTable();
        for (int cell = 32; cell < 64; cell++) {
            Calls.answer(table, "cut(" + cell + ")");
            CALLS.due("9 behind cut " + cell, Calls.answer(table, "begins(1)"), String.valueOf(cell - 31));
            CALLS.due("9 the card ahead", Calls.answer(table, "begins(0)"), "1");
            CALLS.due("9 the card behind", Calls.answer(table, "begins(2)"), "0");
        }
        CALLS.due("9 again where one began", Calls.answer(table, "cut(63)"), "0");
        CALLS.due("9 as many as there may be", Calls.answer(table, "begins(1)"), "32");
        CALLS.due("9 one less", Calls.answer(table, "join(62)"), "962");
        CALLS.due("9 one less", Calls.answer(table, "begins(1)"), "31");
        CALLS.due("9 one again", Calls.answer(table, "make(32, 64)"), "3");
        CALLS.due("9 one again", Calls.answer(table, "begins(1)"), "1");
    }

    private static void beginsOnLastCard() {
        for (int onLast = 1; onLast <= 32; onLast++) {
            int cells = 64 + onLast;
            String[] rows = {"space(" + cells + ") = 1024", "begins(2) = 0", "cut(64) = 64"};
            for (int cell = 65; cell < cells; cell++) {
                rows = Calls.and(rows, "cut(" + cell + ") = 1");
            }
            CALLS.run("9 the last card of " + onLast + " cells", Calls.and(rows, "begins(2) = " + onLast,
                    "begins(3)" + NO_INDEX, "count(2) = " + (onLast + 1)));
        }
        CALLS.run("9 the last card there may be", "space(16384) = 1024", "begins(511) = 0",
                "cut(16383) = 16383", "begins(511) = 1", "cut(16352) = 16352", "begins(511) = 2",
                "begins(512)" + NO_INDEX);
        CALLS.refuses("9 a card that is not there", INDEX, CUT_ROW, "begins(-1)", "begins(4)", "begins(99)");
        CALLS.refuses("9 a card that is not there, one cell", INDEX, ONE_CELL, "begins(-1)", "begins(1)");
        CALLS.refuses("9 a card that is not there, most cells", INDEX, MOST_CELLS, "begins(-1)",
                "begins(512)");
    }

    private static void countCellsAndCards() {
        CALLS.run("10 \"0 cells\"", "count(0) = 1024", "cut(5) = 5", "count(0) = 1024", "space(1) = 1024",
                "count(0) = 1", "space(16384) = 1", "count(0) = 16384", "space(16385)" + NO_ARGUMENT,
                "count(0) = 16384");
        CALLS.run("10 \"1 cards\"", "count(1) = 32", "space(1) = 1024", "count(1) = 1", "space(31) = 1",
                "count(1) = 1", "space(32) = 31", "count(1) = 1", "space(33) = 32", "count(1) = 2",
                "space(64) = 33", "count(1) = 2", "space(65) = 64", "count(1) = 3", "space(16352) = 65",
                "count(1) = 511", "space(16353) = 16352", "count(1) = 512", "space(16384) = 16353",
                "count(1) = 512");
    }

    private static void countPiecesAndSizes() {
        CALLS.run("10 \"2 pieces\"", "count(2) = 1", "cut(0) = 0", "count(2) = 1", "cut(9) = 9",
                "count(2) = 2", "cut(9) = 0", "count(2) = 2", "join(9) = 0", "count(2) = 2",
                "make(3, 5) = 4", "count(2) = 4", "make(5, 3)" + NO_INDEX, "count(2) = 4", "join(0) = 5",
                "count(2) = 3", "space(2) = 1024", "count(2) = 1", "cut(1) = 1", "count(2) = 2");
        CALLS.run("10 \"3 the greatest size\" first, \"4 the least\" last", "space(100) = 1024",
                "cut(50) = 50", "cut(80) = 30", "count(3) = 50", "count(4) = 20");
        CALLS.run("10 the greatest size last, the least first", "space(100) = 1024", "cut(20) = 20",
                "cut(50) = 30", "count(3) = 50", "count(4) = 20");
        CALLS.run("10 the greatest size amid", "space(100) = 1024", "cut(20) = 20", "cut(75) = 55",
                "count(3) = 55", "count(4) = 20");
        CALLS.run("10 the least size amid", "space(100) = 1024", "cut(45) = 45", "cut(46) = 1",
                "count(3) = 54", "count(4) = 1");
        CALLS.run("10 the same sizes", "space(64) = 1024", "cut(32) = 32", "count(3) = 32", "count(4) = 32",
                "cut(31) = 31", "count(3) = 32", "count(4) = 1");
        CALLS.run("10 one piece", "count(3) = 1024", "count(4) = 1024", "space(1) = 1024", "count(3) = 1",
                "count(4) = 1", "space(16384) = 1", "count(3) = 16384", "count(4) = 16384");
        CALLS.run("10 the sizes shrink and grow again", "cut(1023) = 1023", "count(3) = 1023",
                "count(4) = 1", "join(0) = 1024", "count(3) = 1024", "count(4) = 1024", "cut(512) = 512",
                "count(3) = 512", "count(4) = 512");
    }

    private static void countNoneOfThese() {
        for (String[] setUp : Arrays.asList(NEW_ROW, ONE_CELL, CUT_ROW, MOST_CELLS)) {
            CALLS.refuses("10 \"IllegalArgumentException: none of these.\"", ARGUMENT, setUp, "count(-1)",
                    "count(5)", "count(6)");
        }
        CALLS.keeps("10 the first of these", "100", CUT_ROW, "count(0)");
        CALLS.keeps("10 the last of these", "1", CUT_ROW, "count(4)");
    }
}
