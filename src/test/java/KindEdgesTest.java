/** The edges that PART 1's list of VALUES and KINDS names: one test for each sentence. */
public final class KindEdgesTest {
    /** What comes to a port: sort 1 a number, 2 a row of n cells, 3 a fault of cause 1. */
    private record Came(int sort, int n) { }

    private static final Came FAULT = new Came(3, 0);
    private static final int OTHER_SIDE = 1;

    public static void main(String[] args) {
        Sentences all = new Sentences("KindEdgesTest");
        all.test("NUMBERS (32 bits, which wrap)", KindEdgesTest::numbersWrap);
        all.test("CONSTANT: its own NUMBER, whatever came", KindEdgesTest::constant);
        all.test("x / y (cut towards 0", KindEdgesTest::dividing);
        all.test("x / y (cause 1: y is 0)", KindEdgesTest::dividingByZero);
        all.test("x % y (likewise)", KindEdgesTest::rest);
        all.test("1 or 0 as x is less than y", KindEdgesTest::less);
        all.test("as x and y are alike (both NUMBERS", KindEdgesTest::alikeNumbers);
        all.test("alike: or both ROWS: the same one)", KindEdgesTest::alikeRows);
        all.test("NOT: 1 if x is 0, else 0", KindEdgesTest::not);
        all.test("SWITCH: along SIDE 0 if y isn't 0", KindEdgesTest::switchToSideZero);
        all.test("SWITCH: along SIDE 1 if it is", KindEdgesTest::switchToSideOne);
        all.test("SWITCH: if y is no NUMBER, nothing: that is LOST", KindEdgesTest::switchLost);
        all.test("MAKE: x cells (0 to 200, else cause 3)", KindEdgesTest::makeSizes);
        all.test("MAKE: a new ROW", KindEdgesTest::makeNew);
        all.test("MAKE: all EMPTY", KindEdgesTest::makeEmpty);
        all.test("READ (cause 2: there is none)", KindEdgesTest::readNoCell);
        all.test("READ: what was written there", KindEdgesTest::readWritten);
        all.test("READ: while it's EMPTY the reader waits", KindEdgesTest::readEmpty);
        all.test("WRITE: z into cell y of ROW x (cause 2)", KindEdgesTest::writeNoCell);
        all.test("READ, WRITE: of ROW x (not of another)", KindEdgesTest::cellsOfOtherRows);
        all.test("WRITE: it gives z", KindEdgesTest::writeGives);
        all.test("SIZE: how many cells x has", KindEdgesTest::size);
        all.test("END: the end's VALUE is x", KindEdgesTest::ends);
        all.test("A FAULT that comes (first by PORTS)", KindEdgesTest::firstFault);
        all.test("A FAULT in place of all else", KindEdgesTest::faultAheadOfAll);
        all.test("but: CONSTANT gives its NUMBER", KindEdgesTest::faultAtConstant);
        all.test("but: SWITCH passes x, whatever it is", KindEdgesTest::faultAtSwitch);
        all.test("but: COPY .. END pass what comes", KindEdgesTest::faultsPass);
        all.test("but: WRITE writes z, whatever it is", KindEdgesTest::writeAnything);
        all.test("WRITE (FAULTS at PORTS 0, 1 count)", KindEdgesTest::faultAtWrite);
        all.test("FAULTS: the ACT where it came to be", KindEdgesTest::actOfFault);
        all.test("a ROW where a NUMBER is wanted: cause 4", KindEdgesTest::rowForNumber);
        all.test("a NUMBER where a ROW is: cause 4", KindEdgesTest::numberForRow);
        all.test("one of each in 8: cause 4", KindEdgesTest::oneOfEach);
        all.test("Wrong sorts come ahead of causes 1, 2, 3", KindEdgesTest::wrongSortsFirst);
        all.close();
    }

    private static Came number(int n) {
        return new Came(1, n);
    }

    private static Came row(int cells) {
        return new Came(2, cells);
    }

    /**
     * Act 0 is the one under test, act 1 the END 0 at its side 0, act 2 + p gives what comes to
     * port p; a SWITCH has the END 1 at its side 1.
     */
    private static TokenFloor trial(Due due, int kind, int number, Came... came) {
        Net net = new Net();
        net.act(kind, number);
        net.end(0, 0);
        for (int port = 0; port < came.length; port++) {
            net.way(giver(net, came[port]), 0, 0, port);
        }
        if (kind == Net.SWITCH) {
            net.way(0, 1, net.act(Net.END, OTHER_SIDE), 0);
        }
        due.same("run", net.x.run(9, 4000), Net.DONE);
        due.same("it went off", net.x.fired(0), 1);
        return net.x;
    }

    private static int giver(Net net, Came came) {
        if (came.sort == 1) {
            return net.begin(Net.COPY, 0, came.n);
        }
        return came.sort == 2 ? net.row(came.n) : net.fault();
    }

    private static TokenFloor trial(Due due, int kind, Came... came) {
        return trial(due, kind, 0, came);
    }

    private static void two(Due due, int kind, int x, int y, int want) {
        due.number(trial(due, kind, number(x), number(y)), 0, want);
    }

    private static void numbersWrap(Due due) {
        two(due, Net.PLUS, Net.MOST - 1, 1, Net.MOST);
        two(due, Net.PLUS, Net.MOST, 1, Net.LEAST);
        two(due, Net.PLUS, Net.LEAST, -1, Net.MOST);
        two(due, Net.PLUS, Net.LEAST, Net.LEAST, 0);
        two(due, Net.MINUS, Net.LEAST + 1, 1, Net.LEAST);
        two(due, Net.MINUS, Net.LEAST, 1, Net.MOST);
        two(due, Net.MINUS, Net.MOST, -1, Net.LEAST);
        two(due, Net.MINUS, 0, Net.LEAST, Net.LEAST);
        two(due, Net.TIMES, 46340, 46340, 2147395600);
        two(due, Net.TIMES, 46341, 46341, -2147479015);
        two(due, Net.TIMES, 65536, 65536, 0);
        two(due, Net.TIMES, Net.MOST, 2, -2);
        two(due, Net.TIMES, Net.LEAST, -1, Net.LEAST);
        two(due, Net.DIVIDE, Net.LEAST, -1, Net.LEAST);
        two(due, Net.DIVIDE, Net.LEAST + 1, -1, Net.MOST);
        two(due, Net.REST, Net.LEAST, -1, 0);
    }

    private static void constant(Due due) {
        for (int own : new int[] {Net.LEAST, -1, 0, 1, Net.MOST}) {
            for (Came c : new Came[] {number(5), row(0), row(3), FAULT}) {
                due.number(trial(due, Net.CONSTANT, own, c), 0, own);
            }
        }
    }

    private static void dividing(Due due) {
        two(due, Net.DIVIDE, 6, 3, 2);
        two(due, Net.DIVIDE, 7, 2, 3);
        two(due, Net.DIVIDE, -7, 2, -3);
        two(due, Net.DIVIDE, 7, -2, -3);
        two(due, Net.DIVIDE, -7, -2, 3);
        two(due, Net.DIVIDE, -1, 2, 0);
        two(due, Net.DIVIDE, 1, -2, 0);
        two(due, Net.DIVIDE, Net.LEAST, Net.MOST, -1);
        two(due, Net.DIVIDE, Net.MOST, Net.LEAST, 0);
    }

    private static void dividingByZero(Due due) {
        for (int x : new int[] {Net.LEAST, -1, 0, 1, Net.MOST}) {
            due.fault(trial(due, Net.DIVIDE, number(x), number(0)), 0, 1, 0);
            two(due, Net.DIVIDE, x, 1, x);
            two(due, Net.DIVIDE, x, -1, -x);
        }
    }

    private static void rest(Due due) {
        two(due, Net.REST, 7, 2, 1);
        two(due, Net.REST, -7, 2, -1);
        two(due, Net.REST, 7, -2, 1);
        two(due, Net.REST, -7, -2, -1);
        two(due, Net.REST, 6, 3, 0);
        two(due, Net.REST, Net.LEAST, Net.MOST, -1);
        two(due, Net.REST, Net.MOST, Net.LEAST, Net.MOST);
        for (int x : new int[] {Net.LEAST, -1, 0, 1, Net.MOST}) {
            due.fault(trial(due, Net.REST, number(x), number(0)), 0, 1, 0);
            two(due, Net.REST, x, 1, 0);
            two(due, Net.REST, x, -1, 0);
        }
    }

    private static void less(Due due) {
        int[] rising = {Net.LEAST, Net.LEAST + 1, -1, 0, 1, Net.MOST - 1, Net.MOST};
        for (int i = 0; i < rising.length; i++) {
            for (int j = 0; j < rising.length; j++) {
                two(due, Net.LESS, rising[i], rising[j], i < j ? 1 : 0);
            }
        }
    }

    private static void alikeNumbers(Due due) {
        int[] some = {Net.LEAST, -1, 0, 1, Net.MOST};
        for (int i = 0; i < some.length; i++) {
            for (int j = 0; j < some.length; j++) {
                two(due, Net.ALIKE, some[i], some[j], i == j ? 1 : 0);
            }
        }
    }

    private static void alikeRows(Due due) {
        for (int cells : new int[] {0, 1, 200}) {
            due.number(trial(due, Net.ALIKE, row(cells), row(cells)), 0, 0);
            Net net = new Net();
            int row = net.row(cells);
            int alike = net.act(Net.ALIKE);
            net.way(row, 0, alike, 0);
            net.way(row, 0, alike, 1);
            net.end(alike, 0);
            net.x.run(1, 99);
            due.number(net.x, 0, 1);
        }
    }

    private static void not(Due due) {
        for (int x : new int[] {Net.LEAST, -1, 0, 1, 2, Net.MOST}) {
            due.number(trial(due, Net.NOT, number(x)), 0, x == 0 ? 1 : 0);
        }
    }

    private static void switchToSideZero(Due due) {
        for (int y : new int[] {Net.LEAST, -1, 1, 2, Net.MOST}) {
            for (int x : new int[] {0, 7}) {
                TokenFloor got = trial(due, Net.SWITCH, number(x), number(y));
                due.number(got, 0, x);
                due.noEnd(got, OTHER_SIDE);
                due.same("lost", got.about(6), 0);
            }
        }
    }

    private static void switchToSideOne(Due due) {
        for (int x : new int[] {0, 7}) {
            TokenFloor got = trial(due, Net.SWITCH, number(x), number(0));
            due.noEnd(got, 0);
            due.number(got, OTHER_SIDE, x);
            due.same("lost", got.about(6), 0);
        }
    }

    private static void switchLost(Due due) {
        for (Came x : new Came[] {number(7), row(1), FAULT}) {
            for (Came y : new Came[] {row(0), row(1), FAULT}) {
                TokenFloor got = trial(due, Net.SWITCH, x, y);
                due.noEnd(got, 0);
                due.noEnd(got, OTHER_SIDE);
                due.same("lost", got.about(6), 1);
            }
        }
    }

    private static void makeSizes(Due due) {
        for (int cells : new int[] {0, 1, 199, 200}) {
            TokenFloor got = trial(due, Net.MAKE, number(cells));
            due.row(got, 0, cells);
            due.same("its last cell", got.cell(0, cells - 1, 0), cells == 0 ? -1 : 0);
            due.same("past its last cell", got.cell(0, cells, 0), -1);
        }
        for (int cells : new int[] {-1, 201, Net.LEAST, Net.MOST}) {
            TokenFloor got = trial(due, Net.MAKE, number(cells));
            due.fault(got, 0, 3, 0);
            due.same("no row", got.cell(0, 0, 0), -1);
        }
    }

    private static void makeNew(Due due) {
        due.number(trial(due, Net.ALIKE, row(1), row(1)), 0, 0);
        // One MAKE that goes off in two calls makes two.
        Net net = new Net();
        net.chain(net.act(Net.PARAMETER, 0), new int[] {Net.MAKE, 0}, new int[] {Net.RETURN, 0});
        int alike = net.act(Net.ALIKE);
        for (int port = 0; port <= 1; port++) {
            int call = net.begin(Net.CALL, 0, 1);
            net.way(call, 0, alike, port);
        }
        net.end(alike, 0);
        due.same("run", net.x.run(1, 99), Net.DONE);
        due.number(net.x, 0, 0);
    }

    private static void makeEmpty(Due due) {
        TokenFloor got = trial(due, Net.MAKE, number(200));
        for (int i = 0; i < 200; i++) {
            due.same("cell " + i, got.cell(0, i, 0), 0);
        }
        due.same("it has no number", got.cell(0, 0, 1), -1);
        // What an earlier run wrote is not there in the next.
        Net net = written(3, 2, 77);
        net.x.run(1, 99);
        due.same("written", net.x.cell(0, 2, 1), 77);
        net.x.clear(0);
        net.token(0, 0, 3);
        net.x.run(1, 99);
        due.same("EMPTY again", net.x.cell(0, 2, 0), 0);
    }

    /** Act 0 makes a row of so many cells, act 1 writes a number into cell i of it. */
    private static Net written(int cells, int i, int z) {
        Net net = new Net();
        int row = net.row(cells);
        int write = net.act(Net.WRITE);
        net.way(row, write);
        net.token(write, 1, i);
        net.token(write, 2, z);
        return net;
    }

    private static void readNoCell(Due due) {
        for (int cells : new int[] {0, 1, 2, 200}) {
            for (int y : new int[] {Net.LEAST, -1, cells, cells + 1, Net.MOST}) {
                TokenFloor got = trial(due, Net.READ, row(cells), number(y));
                due.fault(got, 0, 2, 0);
                due.same("nobody waits", got.about(5), 0);
            }
            for (int y : new int[] {0, cells - 1}) {
                if (cells > 0) {
                    TokenFloor got = trial(due, Net.READ, row(cells), number(y));
                    due.noEnd(got, 0);
                    due.same("it waits at cell " + y, got.about(5), 1);
                }
            }
        }
    }

    /** As written(), with a READ of the same cell that goes to END 0. */
    private static Net writtenAndRead(int cells, int i) {
        Net net = new Net();
        int row = net.row(cells);
        int write = net.act(Net.WRITE);
        int read = net.act(Net.READ);
        net.way(row, write);
        net.way(row, read);
        net.token(write, 1, i);
        net.token(read, 1, i);
        net.end(read, 0);
        return net;
    }

    private static void readWritten(Due due) {
        for (int z : new int[] {Net.LEAST, -1, 0, 1, Net.MOST}) {
            for (int seed = 0; seed < 6; seed++) {
                Net net = writtenAndRead(200, seed % 2 == 0 ? 199 : 0);
                net.token(1, 2, z);
                due.same("run", net.x.run(seed, 99), Net.DONE);
                due.number(net.x, 0, z);
                due.same("nobody waits", net.x.about(5), 0);
            }
        }
        // A ROW and a FAULT in a cell are no EMPTY ones.
        for (int seed = 0; seed < 6; seed++) {
            Net net = writtenAndRead(2, 1);
            net.way(net.row(6), 0, 1, 2);
            due.same("run", net.x.run(seed, 99), Net.DONE);
            due.row(net.x, 0, 6);
            net = writtenAndRead(2, 1);
            int fault = net.fault();
            net.way(fault, 0, 1, 2);
            due.same("run", net.x.run(seed, 99), Net.DONE);
            due.fault(net.x, 0, 1, fault);
        }
    }

    private static void readEmpty(Due due) {
        // Another cell of the row is written, not the one that is read.
        Net net = written(2, 0, 5);
        int read = net.act(Net.READ);
        net.way(0, read);
        net.token(read, 1, 1);
        net.end(read, 0);
        due.same("run", net.x.run(1, 99), Net.DONE);
        due.same("it went off", net.x.fired(read), 1);
        due.same("it waits", net.x.about(5), 1);
        due.same("its tokens are not left", net.x.about(4), 0);
        due.same("it is not ready", net.x.about(10), 0);
        due.noEnd(net.x, 0);
    }

    private static void writeNoCell(Due due) {
        for (int cells : new int[] {0, 2, 200}) {
            for (int y : new int[] {Net.LEAST, -1, cells, Net.MOST}) {
                TokenFloor got = trial(due, Net.WRITE, row(cells), number(y), number(5));
                due.fault(got, 0, 2, 0);
                for (int i = 0; i < cells; i++) {
                    due.same("nothing was written", got.cell(2, i, 0), 0);
                }
            }
        }
        for (int y : new int[] {0, 199}) {
            TokenFloor got = trial(due, Net.WRITE, row(200), number(y), number(5));
            due.number(got, 0, 5);
            due.same("written", got.cell(2, y, 1), 5);
        }
        // A reader of the last cell is not answered by a write past it.
        Net net = writtenAndRead(2, 1);
        net.x.clear(0);
        net.token(0, 0, 2);
        net.token(1, 1, 2);
        net.token(1, 2, 5);
        net.token(2, 1, 1);
        due.same("run", net.x.run(1, 99), Net.DONE);
        due.same("it waits", net.x.about(5), 1);
    }

    private static void cellsOfOtherRows(Due due) {
        // Acts 0 to 2 make rows of two cells, one after the other; what is past the second's own
        // cells, where the others' might stand, is there for nobody.
        for (int y : new int[] {-2, -1, 0, 1, 2, 3}) {
            boolean there = y == 0 || y == 1;
            Net net = new Net();
            for (int i = 0; i < 3; i++) {
                net.row(2);
            }
            int write = net.act(Net.WRITE);
            int read = net.act(Net.READ);
            for (int act : new int[] {write, read}) {
                net.way(1, act);
                net.token(act, 1, y);
            }
            net.token(write, 2, 5);
            net.end(read, 0);
            due.same("ticks", net.x.ticks(99), Net.DONE);
            for (int i = 0; i < 6; i++) {
                boolean its = there && i == 2 + y;
                due.same("cell " + i % 2 + " of row " + i / 2, net.x.cell(i / 2, i % 2, 0), its ? 1 : 0);
            }
            if (there) {
                due.number(net.x, 0, 5);
            } else {
                due.fault(net.x, 0, 2, read);
            }
        }
    }

    private static void writeGives(Due due) {
        due.number(trial(due, Net.WRITE, row(1), number(0), number(0)), 0, 0);
        due.number(trial(due, Net.WRITE, row(1), number(0), number(Net.LEAST)), 0, Net.LEAST);
        due.row(trial(due, Net.WRITE, row(1), number(0), row(4)), 0, 4);
        due.fault(trial(due, Net.WRITE, row(1), number(0), FAULT), 0, 1, 4);
    }

    private static void size(Due due) {
        for (int cells : new int[] {0, 1, 200}) {
            due.number(trial(due, Net.SIZE, row(cells)), 0, cells);
        }
    }

    private static void ends(Due due) {
        Net net = new Net();
        for (int e = 0; e <= 9; e++) {
            net.begin(Net.END, e, e == 4 ? 0 : -e);
        }
        net.x.run(1, 99);
        for (int e = 0; e <= 9; e++) {
            due.number(net.x, e, e == 4 ? 0 : -e);
        }
        due.row(trial(due, Net.COPY, row(0)), 0, 0);
        due.row(trial(due, Net.COPY, row(200)), 0, 200);
        due.fault(trial(due, Net.COPY, FAULT), 0, 1, 2);
    }

    private static void firstFault(Due due) {
        int[] kinds = {
            Net.PLUS, Net.MINUS, Net.TIMES, Net.DIVIDE, Net.REST, Net.LESS, Net.ALIKE, Net.READ
        };
        for (int kind : kinds) {
            due.fault(trial(due, kind, FAULT, FAULT), 0, 1, 2);
            due.fault(trial(due, kind, number(1), FAULT), 0, 1, 3);
            due.fault(trial(due, kind, FAULT, number(1)), 0, 1, 2);
        }
        due.fault(trial(due, Net.WRITE, FAULT, FAULT, FAULT), 0, 1, 2);
        due.fault(trial(due, Net.WRITE, row(1), FAULT, FAULT), 0, 1, 3);
        // A row of many cells: the FAULT's cause might pass for a cell's number.
        TokenFloor got = trial(due, Net.READ, row(9), FAULT);
        due.fault(got, 0, 1, 3);
        due.same("nobody waits", got.about(5), 0);
        for (int kind : new int[] {Net.NOT, Net.MAKE, Net.SIZE}) {
            due.fault(trial(due, kind, FAULT), 0, 1, 2);
        }
    }

    private static void faultAheadOfAll(Due due) {
        // Ahead of cause 4 ..
        int[] kinds = {Net.PLUS, Net.MINUS, Net.TIMES, Net.DIVIDE, Net.REST, Net.LESS, Net.ALIKE};
        for (int kind : kinds) {
            due.fault(trial(due, kind, row(1), FAULT), 0, 1, 3);
            due.fault(trial(due, kind, FAULT, row(1)), 0, 1, 2);
        }
        due.fault(trial(due, Net.READ, number(0), FAULT), 0, 1, 3);
        due.fault(trial(due, Net.READ, FAULT, row(1)), 0, 1, 2);
        due.fault(trial(due, Net.WRITE, number(0), FAULT, number(1)), 0, 1, 3);
        due.fault(trial(due, Net.WRITE, FAULT, row(1), number(1)), 0, 1, 2);
        // .. and of causes 1 and 2.
        due.fault(trial(due, Net.DIVIDE, FAULT, number(0)), 0, 1, 2);
        due.fault(trial(due, Net.REST, FAULT, number(0)), 0, 1, 2);
        due.fault(trial(due, Net.READ, FAULT, number(-1)), 0, 1, 2);
        due.fault(trial(due, Net.WRITE, FAULT, number(-1), number(1)), 0, 1, 2);
    }

    private static void faultAtConstant(Due due) {
        due.number(trial(due, Net.CONSTANT, 3, FAULT), 0, 3);
    }

    private static void faultAtSwitch(Due due) {
        due.fault(trial(due, Net.SWITCH, FAULT, number(1)), 0, 1, 2);
        due.fault(trial(due, Net.SWITCH, FAULT, number(0)), OTHER_SIDE, 1, 2);
        due.row(trial(due, Net.SWITCH, row(3), number(1)), 0, 3);
        due.row(trial(due, Net.SWITCH, row(3), number(0)), OTHER_SIDE, 3);
    }

    private static void faultsPass(Due due) {
        for (int kind : new int[] {Net.COPY, Net.PARAMETER}) {
            due.fault(trial(due, kind, FAULT), 0, 1, 2);
            due.row(trial(due, kind, row(3)), 0, 3);
        }
        // ENTER, NEXT, LEAVE, CALL, PARAMETER, RETURN, END in one chain.
        Net net = new Net();
        int fault = net.fault();
        int next = net.chain(fault, new int[] {Net.ENTER, 1}, new int[] {Net.NEXT, 1});
        int left = net.chain(next, new int[] {Net.LEAVE, 1});
        int call = net.call(3, 2);
        net.way(left, 0, call, 1);
        net.token(call, 0, 1);
        net.chain(net.act(Net.PARAMETER, 31), new int[] {Net.RETURN, 0});
        net.end(call, 0);
        due.same("run", net.x.run(1, 99), Net.DONE);
        due.fault(net.x, 0, 1, fault);
        due.same("lost", net.x.about(6), 0);
    }

    private static void writeAnything(Due due) {
        Came[] all = {number(0), number(-1), row(0), row(9), FAULT};
        int[][] want = {{1, 0, -1}, {1, -1, -1}, {2, 0, -1}, {2, 9, -1}, {3, 1, 4}};
        for (int i = 0; i < all.length; i++) {
            TokenFloor got = trial(due, Net.WRITE, row(2), number(1), all[i]);
            for (int what = 0; what <= 2; what++) {
                due.same("cell 1 (" + what + ")", got.cell(2, 1, what), want[i][what]);
            }
            due.same("cell 0", got.cell(2, 0, 0), 0);
        }
    }

    private static void faultAtWrite(Due due) {
        for (Came z : new Came[] {number(5), row(9), FAULT}) {
            TokenFloor got = trial(due, Net.WRITE, row(9), FAULT, z);
            due.fault(got, 0, 1, 3);
            nothingWritten(due, got, 2, 9);
            got = trial(due, Net.WRITE, FAULT, number(0), z);
            due.fault(got, 0, 1, 2);
            nothingWritten(due, got, 4, z.sort == 2 ? 9 : 0);
        }
    }

    private static void actOfFault(Due due) {
        // The first act and the last that there can be; a copy is not where it came to be.
        Net net = new Net();
        int first = net.fault();
        net.end(first, 0);
        int copy = net.act(Net.COPY);
        net.end(copy, 1);
        for (int act = 4; act < 79; act++) {
            net.act(Net.COPY);
        }
        int last = net.fault();
        net.way(last, copy);
        due.same("run", net.x.run(1, 99), Net.DONE);
        due.fault(net.x, 0, 1, 0);
        due.fault(net.x, 1, 1, 79);
    }

    private static void rowForNumber(Due due) {
        int[] kinds = {Net.PLUS, Net.MINUS, Net.TIMES, Net.DIVIDE, Net.REST, Net.LESS};
        for (int kind : kinds) {
            due.fault(trial(due, kind, row(1), number(1)), 0, 4, 0);
            due.fault(trial(due, kind, number(1), row(1)), 0, 4, 0);
            due.fault(trial(due, kind, row(1), row(1)), 0, 4, 0);
        }
        due.fault(trial(due, Net.NOT, row(0)), 0, 4, 0);
        due.fault(trial(due, Net.MAKE, row(1)), 0, 4, 0);
        // Rows of many cells, too: whatever a ROW is inside, it might pass for a cell's number.
        for (int cells : new int[] {1, 9}) {
            TokenFloor got = trial(due, Net.READ, row(cells), row(cells));
            due.fault(got, 0, 4, 0);
            due.same("nobody waits", got.about(5), 0);
            got = trial(due, Net.WRITE, row(cells), row(cells), number(5));
            due.fault(got, 0, 4, 0);
            nothingWritten(due, got, 2, cells);
            nothingWritten(due, got, 3, cells);
        }
    }

    private static void nothingWritten(Due due, TokenFloor got, int make, int cells) {
        for (int i = 0; i < cells; i++) {
            due.same("cell " + i + " of act " + make, got.cell(make, i, 0), 0);
        }
    }

    private static void numberForRow(Due due) {
        for (int x = -1; x <= 2; x++) {
            due.fault(trial(due, Net.SIZE, number(x)), 0, 4, 0);
            due.fault(trial(due, Net.READ, number(x), number(0)), 0, 4, 0);
            due.fault(trial(due, Net.WRITE, number(x), number(0), number(5)), 0, 4, 0);
            // With a row there, too, for which the number might pass.
            TokenFloor got = trial(due, Net.WRITE, number(x), number(0), row(3));
            due.fault(got, 0, 4, 0);
            nothingWritten(due, got, 4, 3);
            got = trial(due, Net.READ, number(x), row(3));
            due.fault(got, 0, 4, 0);
            due.same("nobody waits", got.about(5), 0);
            numberBesideRows(due, x);
        }
    }

    /** A READ and a SIZE of a number, once three rows are there that nobody asks for. */
    private static void numberBesideRows(Due due, int x) {
        Net net = new Net();
        for (int i = 0; i < 3; i++) {
            net.row(3);
        }
        int read = net.act(Net.READ);
        net.token(read, 0, x);
        net.token(read, 1, 1);
        int size = net.begin(Net.SIZE, 0, x);
        net.end(read, 0);
        net.end(size, 1);
        due.same("ticks", net.x.ticks(99), Net.DONE);
        due.fault(net.x, 0, 4, read);
        due.fault(net.x, 1, 4, size);
        due.same("nobody waits", net.x.about(5), 0);
    }

    private static void oneOfEach(Due due) {
        for (int cells = 0; cells <= 1; cells++) {
            due.fault(trial(due, Net.ALIKE, row(cells), number(cells)), 0, 4, 0);
            due.fault(trial(due, Net.ALIKE, number(cells), row(cells)), 0, 4, 0);
        }
    }

    private static void wrongSortsFirst(Due due) {
        due.fault(trial(due, Net.DIVIDE, row(1), number(0)), 0, 4, 0);
        due.fault(trial(due, Net.REST, row(1), number(0)), 0, 4, 0);
        due.fault(trial(due, Net.READ, number(0), number(-1)), 0, 4, 0);
        due.fault(trial(due, Net.READ, row(0), row(0)), 0, 4, 0);
        due.fault(trial(due, Net.WRITE, number(0), number(-1), number(5)), 0, 4, 0);
        due.fault(trial(due, Net.WRITE, row(0), row(0), FAULT), 0, 4, 0);
        due.fault(trial(due, Net.MAKE, row(200)), 0, 4, 0);
    }
}
