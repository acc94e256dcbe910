/**
 * What the document's first line says of the whole: loops and calls run beside themselves by
 * colours, cells wait to be filled; whatever is chosen to go off first, the end is the same.
 */
public final class WholeTest {
    private static final int CELLS = 6;
    private static final int FUNCTION = 3;
    private static final int LOOP = 4;
    /** The act of squares() that makes the row: it comes behind the three of the function. */
    private static final int MAKE = 3;

    public static void main(String[] args) {
        Sentences all = new Sentences("WholeTest");
        all.test("loops and calls run beside themselves", WholeTest::besideThemselves);
        all.test("cells wait to be filled", WholeTest::cellsWait);
        all.test("whatever is chosen first, the end is the same", WholeTest::sameEnd);
        all.test("An object is used for at most 512 calls", WholeTest::allCallsOfAnObject);
        all.test("NONE = -1", due -> due.same("NONE", TokenFloor.NONE, -1));
        all.close();
    }

    /** A loop with turns 0 to CELLS - 1, each of which writes the square of its number. */
    private static Net squares() {
        Net net = new Net();
        int x = net.act(Net.PARAMETER, 10 * FUNCTION);
        int square = net.act(Net.TIMES);
        net.way(x, square);
        net.way(x, 0, square, 1);
        net.chain(square, new int[] {Net.RETURN, 0});

        int make = net.row(CELLS);
        int row = net.chain(make, new int[] {Net.ENTER, LOOP}, new int[] {Net.COPY, 0});
        int i = net.chain(net.begin(Net.ENTER, LOOP, 0), new int[] {Net.COPY, 0});
        int again = less(net, i, CELLS);
        int rowOn = switched(net, row, again);
        int iOn = switched(net, i, again);
        int call = net.call(FUNCTION, 1);
        net.way(iOn, call);
        int write = net.act(Net.WRITE);
        net.way(rowOn, write);
        net.way(iOn, 0, write, 1);
        net.way(call, 0, write, 2);
        net.way(net.chain(rowOn, new int[] {Net.NEXT, LOOP}), row);
        net.way(net.chain(plusOne(net, iOn), new int[] {Net.NEXT, LOOP}), i);
        int leave = net.act(Net.LEAVE, LOOP);
        net.way(iOn, 1, leave, 0);
        net.end(leave, 0);
        sumOfCells(net, make);
        return net;
    }

    private static int less(Net net, int i, int bound) {
        int constant = net.chain(i, new int[] {Net.CONSTANT, bound});
        int less = net.act(Net.LESS);
        net.way(i, less);
        net.way(constant, 0, less, 1);
        return less;
    }

    private static int switched(Net net, int x, int y) {
        int act = net.act(Net.SWITCH);
        net.way(x, act);
        net.way(y, 0, act, 1);
        return act;
    }

    private static int plusOne(Net net, int x) {
        int one = net.chain(x, new int[] {Net.CONSTANT, 1});
        int plus = net.act(Net.PLUS);
        net.way(x, plus);
        net.way(one, 0, plus, 1);
        return plus;
    }

    /** Reads all cells of the row at once, and adds them up to end 1. */
    private static void sumOfCells(Net net, int make) {
        int sum = -1;
        for (int cell = 0; cell < CELLS; cell++) {
            int read = net.act(Net.READ);
            net.way(make, read);
            net.token(read, 1, cell);
            if (sum < 0) {
                sum = read;
            } else {
                int plus = net.act(Net.PLUS);
                net.way(sum, plus);
                net.way(read, 0, plus, 1);
                sum = plus;
            }
        }
        net.end(sum, 1);
    }

    private static void besideThemselves(Due due) {
        Net net = squares();
        due.same("by ticks", net.x.ticks(4000), Net.DONE);
        due.number(net.x, 0, CELLS);
        due.number(net.x, 1, 55);
        due.same("colours: 0, the turns, the calls", net.x.about(8), 1 + (CELLS + 1) + CELLS);
        due.holds("more than one went off in a tick", net.x.about(3) > 1);
        due.holds("there were fewer ticks than steps", net.x.about(2) < net.x.about(1));
        due.same("the function's product", net.x.fired(1), CELLS);
    }

    private static void cellsWait(Due due) {
        Net net = squares();
        int mostWaiting = 0;
        // NONE of each of the two cells, before the row is there.
        int filled = -2;
        for (int fuel = 0; fuel < 150; fuel += 3) {
            net.x.ticks(fuel);
            mostWaiting = Math.max(mostWaiting, net.x.about(5));
            int now = net.x.cell(MAKE, 0, 0) + net.x.cell(MAKE, 1, 0);
            due.holds("a filled cell stays so", now >= filled);
            filled = now;
        }
        due.same("all readers waited at once", mostWaiting, CELLS);
        due.same("in the end", net.x.run(1, 4000), Net.DONE);
        due.same("none waits", net.x.about(5), 0);
        for (int cell = 0; cell < CELLS; cell++) {
            due.same("cell " + cell, net.x.cell(MAKE, cell, 1), cell * cell);
        }
    }

    private static void sameEnd(Due due) {
        Net byTicks = squares();
        byTicks.x.ticks(4000);
        int[] want = figures(byTicks.x);
        due.holds("acts are told of", want.length > 40);
        for (int seed = -20; seed < 20; seed++) {
            Net net = squares();
            due.same("run by " + seed, net.x.run(seed, 4000), Net.DONE);
            int[] got = figures(net.x);
            for (int i = 0; i < want.length; i++) {
                due.same("figure " + i + " by " + seed, got[i], want[i]);
            }
            due.number(net.x, 0, CELLS);
            due.number(net.x, 1, 55);
            due.same("beside the next", net.x.beside(seed, seed + 1, 4000), -1);
        }
    }

    /** All that is told of the latest run but its ticks, and then how often each act went off. */
    private static int[] figures(TokenFloor x) {
        int[] whats = {0, 1, 4, 5, 6, 7, 8, 9, 10};
        int acts = 0;
        while (x.told(acts, 0) != -1) {
            acts++;
        }
        int[] figures = new int[whats.length + acts];
        for (int i = 0; i < whats.length; i++) {
            figures[i] = x.about(whats[i]);
        }
        for (int act = 0; act < acts; act++) {
            figures[whats.length + act] = x.fired(act);
        }
        return figures;
    }

    /** The 512th call still answers as the document says. */
    private static void allCallsOfAnObject(Due due) {
        TokenFloor x = new TokenFloor();
        x.act(Net.COPY, 0, 0);
        x.act(Net.END, 0, 0);
        x.way(0, 0, 1, 0);
        x.token(0, 0, 7);
        for (int call = 5; call < 511; call += 2) {
            due.same("call " + call, x.run(call, 4000), Net.DONE);
            due.same("call " + (call + 1), x.about(1), 2);
        }
        due.same("call 511", x.end(0, 0), 1);
        due.same("call 512", x.end(0, 1), 7);
    }
}
