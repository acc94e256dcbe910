/** Promise 11 and the ROWS: cells, readers that wait, writes that clash, the limits of rows. */
public final class RowsTest {
    private static final Due due = new Due("RowsTest");

    public static void main(String[] args) {
        cellsToldAsEnds();
        cellsOfNone();
        onlyOfColourZero();
        readersAnsweredAsTheyCame();
        readersKeepTheirColour();
        clashAtAWrite();
        clashAmongReaders();
        fullOfRows();
        fullOfCells();
        due.close();
    }

    /** A MAKE (act 0) and four WRITEs (acts 1 to 4) into its cells 0 to 3, to which z must come. */
    private static TokenFloor rowOfFive() {
        TokenFloor x = new TokenFloor();
        x.act(17, 0, 0);
        x.token(0, 0, 5);
        for (int i = 0; i < 4; i++) {
            x.act(19, 0, 0);
            x.way(0, 0, 1 + i, 0);
            x.token(1 + i, 1, i);
        }
        return x;
    }

    private static void cellsToldAsEnds() {
        TokenFloor x = rowOfFive();
        x.act(17, 0, 0);
        x.token(5, 0, 3);
        x.way(5, 0, 2, 2);
        x.act(6, 0, 0);
        x.token(6, 0, 1);
        x.token(6, 1, 0);
        x.way(6, 0, 3, 2);
        x.token(1, 2, -8);
        x.way(0, 0, 4, 2);
        due.same("no run yet", x.cell(0, 0, 0), -1);
        due.same("run", x.run(1, 99), 0);
        int[][] want = {{1, -8, -1}, {2, 3, -1}, {3, 1, 6}, {2, 5, -1}, {0, -1, -1}};
        for (int i = 0; i < 5; i++) {
            for (int what = 0; what < 3; what++) {
                due.same("cell(0, " + i + ", " + what + ")", x.cell(0, i, what), want[i][what]);
            }
            due.same("no what 3", x.cell(0, i, 3), -1);
            due.same("no what -1", x.cell(0, i, -1), -1);
        }
        due.same("the other row", x.cell(5, 2, 0), 0);
        due.same("it has 3 cells", x.cell(5, 3, 0), -1);
    }

    private static void cellsOfNone() {
        TokenFloor x = rowOfFive();
        x.run(1, 99);
        for (int i : new int[] {-1, 5, Integer.MIN_VALUE, Integer.MAX_VALUE}) {
            due.same("no cell " + i, x.cell(0, i, 0), -1);
        }
        for (int act : new int[] {-1, 1, 5, 80, Integer.MIN_VALUE, Integer.MAX_VALUE}) {
            due.same("no row of act " + act, x.cell(act, 0, 0), -1);
        }
        x.act(17, 0, 0);
        due.same("a MAKE that came after the run", x.cell(5, 0, 0), -1);
        x.run(1, 0);
        due.same("not made yet", x.cell(0, 0, 0), -1);
        x.clear(0);
        due.same("no run", x.cell(0, 0, 0), -1);
        x.token(0, 0, 201);
        x.run(1, 99);
        due.same("a fault made no row", x.cell(0, 0, 0), -1);
    }

    private static void onlyOfColourZero() {
        TokenFloor x = new TokenFloor();
        x.act(11, 0, 0);
        x.act(17, 0, 0);
        x.way(0, 0, 1, 0);
        x.token(0, 0, 4);
        x.run(1, 99);
        due.same("it made one", x.fired(1), 1);
        due.same("but not in colour 0", x.cell(1, 0, 0), -1);
        x.token(1, 0, 2);
        for (int seed = 0; seed < 6; seed++) {
            x.run(seed, 99);
            due.same("that of colour 0", x.cell(1, 1, 0), 0);
            due.same("has two cells", x.cell(1, 2, 0), -1);
        }
    }

    /**
     * Act 0 makes a row, acts 1 to 3 read its cell 0, act 4 writes it; what each gives goes to a
     * copy of its own, so that the order in which they are answered shows in the row of the ready.
     */
    private static TokenFloor threeReaders() {
        TokenFloor x = new TokenFloor();
        x.act(17, 0, 0);
        for (int i = 1; i <= 3; i++) {
            x.act(18, 0, 0);
        }
        x.act(19, 0, 0);
        for (int i = 5; i <= 8; i++) {
            x.act(0, 0, 0);
        }
        x.way(0, 0, 3, 0);
        x.way(0, 0, 1, 0);
        x.way(0, 0, 2, 0);
        x.way(0, 0, 4, 0);
        for (int i = 1; i <= 4; i++) {
            x.way(i, 0, i + 4, 0);
        }
        x.token(0, 0, 1);
        for (int i = 1; i <= 4; i++) {
            x.token(i, 1, 0);
        }
        x.token(4, 2, 7);
        return x;
    }

    private static void readersAnsweredAsTheyCame() {
        TokenFloor x = threeReaders();
        due.same("fuel for the readers", x.ticks(4), 3);
        due.same("they wait", x.about(5), 3);
        due.same("they went off", x.fired(1), 1);
        due.same("their tokens are not left", x.about(4), 0);
        due.same("fuel for the write", x.ticks(5), 3);
        due.same("none waits", x.about(5), 0);
        due.same("all are answered", x.about(10), 4);
        int[] order = {7, 5, 6, 8};
        for (int i = 0; i < 4; i++) {
            x.ticks(6 + i);
            due.same("answered as number " + i, x.fired(order[i]), 1);
            due.same("and nobody else", x.about(10), 3 - i);
        }
        due.same("done", x.about(0), 0);
        due.same("an answer is no step", x.about(1), 9);
        due.same("a reader goes off once", x.fired(1), 1);
        due.same("the cell", x.cell(0, 0, 1), 7);
    }

    private static void readersKeepTheirColour() {
        // The reader waits in a turn of a loop; its answer leaves the loop from there.
        TokenFloor x = new TokenFloor();
        x.act(17, 0, 0);
        x.act(11, 2, 0);
        x.act(11, 2, 0);
        x.act(18, 0, 0);
        x.act(13, 2, 0);
        x.act(21, 0, 0);
        x.act(19, 0, 0);
        x.way(0, 0, 1, 0);
        x.way(1, 0, 3, 0);
        x.way(2, 0, 3, 1);
        x.way(3, 0, 4, 0);
        x.way(4, 0, 5, 0);
        x.way(0, 0, 6, 0);
        x.token(0, 0, 2);
        x.token(2, 0, 1);
        x.token(6, 1, 1);
        x.token(6, 2, 31);
        for (int seed = 0; seed < 16; seed++) {
            due.same("run", x.run(seed, 99), 0);
            due.same("end", x.end(0, 1), 31);
            due.same("colours", x.about(8), 2);
        }
    }

    private static void clashAtAWrite() {
        TokenFloor x = rowOfFive();
        x.act(19, 0, 0);
        x.act(21, 0, 0);
        x.way(0, 0, 5, 0);
        x.way(5, 0, 6, 0);
        x.token(5, 1, 0);
        x.token(5, 2, 2);
        x.token(1, 2, 1);
        due.same("clash", x.ticks(99), 1);
        due.same("the second that writes", x.about(9), 5);
        due.same("the first one's stays", x.cell(0, 0, 1), 1);
        due.same("it gave nothing", x.end(0, 0), 0);
        due.same("it went off", x.fired(5), 1);
    }

    private static void clashAmongReaders() {
        // The second reader's copy has had a token: the third still waits, the write gives nothing.
        TokenFloor x = threeReaders();
        x.token(5, 0, 1);
        due.same("clash", x.run(1, 5) >= 0 ? x.ticks(99) : -1, 1);
        due.same("the act", x.about(9), 5);
        due.same("one reader waits still", x.about(5), 1);
        due.same("the cell is written", x.cell(0, 0, 1), 7);
        due.same("the first reader's copy is ready", x.about(10), 1);
        due.same("the write's copy is not", x.fired(8), 0);
    }

    private static void fullOfRows() {
        // One MAKE of no cells a turn: 300 rows, 4 pairs a turn.
        TokenFloor x = loopWithMake();
        x.token(0, 0, 0);
        due.same("full", x.ticks(4000), 2);
        due.same("the 301st", x.fired(1), 301);
    }

    private static TokenFloor loopWithMake() {
        TokenFloor x = new TokenFloor();
        x.act(11, 0, 0);
        x.act(17, 0, 0);
        x.act(12, 0, 0);
        x.way(0, 0, 1, 0);
        x.way(0, 0, 2, 0);
        x.way(2, 0, 1, 0);
        x.way(2, 0, 2, 0);
        return x;
    }

    private static void fullOfCells() {
        int[][] sizeAndMade = {{200, 10}, {199, 10}, {7, 285}, {6, 300}, {150, 13}};
        for (int[] pair : sizeAndMade) {
            TokenFloor x = loopWithMake();
            x.token(0, 0, pair[0]);
            due.same("full", x.ticks(4000), 2);
            due.same("rows of " + pair[0], x.fired(1), pair[1] + 1);
        }
        // Just 2000 cells are allowed.
        TokenFloor x = new TokenFloor();
        for (int i = 0; i < 11; i++) {
            x.act(17, 0, 0);
            x.token(i, 0, i < 10 ? 200 : 0);
        }
        due.same("2000 cells", x.ticks(99), 0);
        due.same("the last cell", x.cell(9, 199, 0), 0);
        x.act(17, 0, 0);
        x.token(11, 0, 1);
        due.same("2001 cells", x.ticks(99), 2);
        due.same("steps", x.about(1), 12);
        due.same("no such row", x.cell(11, 0, 0), -1);
    }
}
