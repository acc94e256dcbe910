import java.util.ArrayList;
import java.util.List;

/** The edges that PART 2's lines on how a RUN goes and how it ends name: one test each. */
public final class RunEdgesTest {
    private static final int SEEDS = 8;
    private static final int[] LEAVE = {Net.LEAVE, 0};

    public static void main(String[] args) {
        Sentences all = new Sentences("RunEdgesTest");
        all.test("the TOKENS come to their PORTS, as they were put", RunEdgesTest::tokensAsPut);
        all.test("READY when all its PORTS have a TOKEN", RunEdgesTest::allPorts);
        all.test("READY: a TOKEN of it (of one COLOUR)", RunEdgesTest::portsOfOneColour);
        all.test("READY: all 80 ACTS in one COLOUR", RunEdgesTest::allActs);
        all.test("READY ones stand in a row, as they became so", RunEdgesTest::asTheyBecameReady);
        all.test("S is 1103515245 S + 12345; (S >>> 16) % n", RunEdgesTest::chosenBySeed);
        all.test("WAYS by numbers", RunEdgesTest::waysByNumbers);
        all.test("of CALL by PARAMETERS", RunEdgesTest::argumentsByParameters);
        all.test("first the readers, as they came to wait", RunEdgesTest::readersFirst);
        all.test("the readers each what it gives (in its COLOUR)", RunEdgesTest::readersOfColours);
        all.test("CLASH: among the TOKENS put", RunEdgesTest::clashAtStart);
        all.test("CLASH: at a PORT that waits for others", RunEdgesTest::clashAtWaiting);
        all.test("CLASH: at a READY one", RunEdgesTest::clashAtReady);
        all.test("CLASH: a PORT that had one ever", RunEdgesTest::clashAtGone);
        all.test("CLASH: at any PORT of any KIND", RunEdgesTest::clashAtAnyPort);
        all.test("CLASH: two WAYS to one PORT", RunEdgesTest::clashOfTwoWays);
        all.test("CLASH: at a PARAMETER", RunEdgesTest::clashAtParameter);
        all.test("CLASH: by two RETURNS of one call", RunEdgesTest::clashOfReturns);
        all.test("CLASH: by two LEAVES to one COLOUR", RunEdgesTest::clashOfLeaves);
        all.test("CLASH: a PORT of its COLOUR (not of another)", RunEdgesTest::noClashOfColours);
        all.test("CLASH: a WRITE finds its cell written", RunEdgesTest::clashOfWrites);
        all.test("CLASH: (not by a WRITE that gives a FAULT)", RunEdgesTest::noClashOfFaultyWrite);
        all.test("CLASH: (not by a WRITE to another cell)", RunEdgesTest::noClashOfCells);
        all.test("CLASH: an END has its VALUE", RunEdgesTest::clashOfEnds);
        all.test("an END of other COLOURS: a STRAY", RunEdgesTest::strays);
        all.test("a STRAY, whatever came ahead", RunEdgesTest::straysWhateverCame);
        all.test("FULL: more than 600 COLOURS, by NEXT", RunEdgesTest::coloursByNext);
        all.test("FULL: more than 600 COLOURS, by ENTER", RunEdgesTest::coloursByEnter);
        all.test("FULL: more than 600 COLOURS, by CALL", RunEdgesTest::coloursByCall);
        all.test("FULL: (not by a COLOUR that is there)", RunEdgesTest::coloursKnown);
        all.test("FULL: more than 3000 pairs", RunEdgesTest::pairs);
        all.test("FULL: pairs that have had a TOKEN", RunEdgesTest::pairsHalfFilled);
        all.test("FULL: 3000 pairs, the last ones READY at once", RunEdgesTest::pairsReadyAtOnce);
        all.test("FULL: (not by a pair that is there)", RunEdgesTest::pairsKnown);
        all.test("FULL: more than 300 ROWS", RunEdgesTest::rows);
        all.test("FULL: 300 ROWS, and NUMBERS that are none of them", RunEdgesTest::rowsAndNumbers);
        all.test("FULL: (not by a MAKE that gives a FAULT)", RunEdgesTest::rowsNotMade);
        all.test("FULL: more than 2000 cells", RunEdgesTest::cells);
        all.test("SPENT, when FUEL STEPS are done and one is READY", RunEdgesTest::spent);
        all.test("DONE, when none is READY", RunEdgesTest::done);
        all.test("CLASH, FULL in the last STEP of FUEL", RunEdgesTest::endInTheLastStep);
        all.test("At CLASH it stops within the STEP", RunEdgesTest::clashWithinStep);
        all.test("At CLASH (readers not answered yet wait still)", RunEdgesTest::clashAmongReaders);
        all.test("At FULL it stops within the STEP", RunEdgesTest::fullWithinStep);
        all.test("At FULL (readers not answered yet wait still)", RunEdgesTest::fullAmongReaders);
        all.close();
    }

    /** The order in which copies go off, seen by one run for each fuel. */
    private static void order(Due due, Net net, int steps, int... acts) {
        for (int i = 0; i < acts.length; i++) {
            net.x.ticks(steps + i);
            due.same("act " + acts[i] + " not before step " + (steps + i), net.x.fired(acts[i]), 0);
            net.x.ticks(steps + i + 1);
            due.same("act " + acts[i] + " after step " + (steps + i), net.x.fired(acts[i]), 1);
        }
    }

    private static void tokensAsPut(Due due) {
        Net net = new Net();
        for (int i = 0; i < 4; i++) {
            net.act(Net.COPY);
        }
        int[] put = {2, 0, 3, 1};
        for (int act : put) {
            net.token(act, 0, 1);
        }
        order(due, net, 0, put);
        due.same("in colour 0", net.x.about(8), 1);
    }

    private static void allPorts(Due due) {
        for (int kind = 0; kind <= 21; kind++) {
            for (int asked = 1; asked <= 3; asked++) {
                Net net = new Net();
                net.x.act(kind, 0, asked);
                int ports = Net.portsOf(kind, asked);
                for (int port = ports - 1; port >= 0; port--) {
                    due.same("not ready", net.x.run(1, 0), Net.DONE);
                    due.same("tokens left", net.x.about(4), ports - 1 - port);
                    due.same("ready", net.x.about(10), 0);
                    net.token(0, port, 1);
                }
                due.same("ready", net.x.run(1, 0), Net.SPENT);
                due.same("one is", net.x.about(10), 1);
                due.same("none is left", net.x.about(4), 0);
            }
        }
    }

    private static void portsOfOneColour(Due due) {
        Net net = new Net();
        int plus = net.act(Net.PLUS);
        net.token(plus, 0, 1);
        net.way(net.begin(Net.ENTER, 0, 2), 0, plus, 1);
        due.same("run", net.x.run(1, 9), Net.DONE);
        due.same("it has both, but of two colours", net.x.fired(plus), 0);
        due.same("left", net.x.about(4), 2);
    }

    private static void allActs(Due due) {
        // Act 0 has its first token ahead of all and its last one after all the others.
        Net net = new Net();
        int plus = net.act(Net.PLUS);
        net.token(plus, 0, 1);
        int last = net.begin(Net.COPY, 0, 1);
        for (int act = 2; act < 80; act++) {
            last = net.chain(last, new int[] {Net.COPY, 0});
        }
        due.same("run", net.x.run(1, 4000), Net.DONE);
        due.same("left", net.x.about(4), 1);
        net.way(last, 0, plus, 1);
        due.same("run", net.x.run(1, 4000), Net.DONE);
        due.same("steps", net.x.about(1), 80);
        due.same("it has both", net.x.fired(plus), 1);
        due.same("left", net.x.about(4), 0);
    }

    private static void asTheyBecameReady(Due due) {
        // PLUS 0 has its first token ahead of all, but its last one comes last.
        Net net = new Net();
        int plus = net.act(Net.PLUS);
        int copy = net.act(Net.COPY);
        int write = net.act(Net.WRITE);
        net.token(plus, 0, 1);
        net.token(write, 0, 1);
        net.token(write, 2, 1);
        net.token(copy, 0, 1);
        net.token(write, 1, 1);
        net.token(plus, 1, 1);
        order(due, net, 0, copy, write, plus);
    }

    private static void chosenBySeed(Due due) {
        for (int n : new int[] {1, 2, 3, 7, 30}) {
            for (int seed : new int[] {0, 1, 2, 3, -1, -2, 12345, 99, Net.LEAST, Net.MOST}) {
                Net net = new Net();
                List<Integer> row = new ArrayList<>();
                for (int i = 0; i < n; i++) {
                    row.add(net.begin(Net.COPY, 0, 1));
                }
                // In 64 bits, so that wrapping and the shift are written out.
                long s = seed & 0xFFFFFFFFL;
                for (int fuel = 1; fuel <= Math.min(n, 10); fuel++) {
                    s = (1103515245L * s + 12345L) & 0xFFFFFFFFL;
                    row.remove((int) ((s >> 16) % row.size()));
                    net.x.run(seed, fuel);
                    for (int act = 0; act < n; act++) {
                        due.same("fired(" + act + ") by seed " + seed + " with fuel " + fuel,
                            net.x.fired(act), row.contains(act) ? 0 : 1);
                    }
                }
            }
        }
    }

    private static void waysByNumbers(Due due) {
        Net net = new Net();
        int from = net.begin(Net.COPY, 0, 1);
        int other = net.act(Net.COPY);
        for (int i = 2; i <= 5; i++) {
            net.act(Net.COPY);
        }
        int[] to = {4, 2, 5, 3};
        for (int act : to) {
            net.way(from, act);
            net.way(other, act);
        }
        order(due, net, 1, to);
    }

    private static void argumentsByParameters(Due due) {
        Net net = new Net();
        int call = net.call(6, 3);
        int second = net.act(Net.PARAMETER, 61);
        int third = net.act(Net.PARAMETER, 62);
        int first = net.act(Net.PARAMETER, 60);
        for (int port = 2; port >= 0; port--) {
            net.token(call, port, 1);
        }
        order(due, net, 1, first, second, third);
    }

    /** Act 0 makes a row; so many READs of its cell 0, then a WRITE of 7; a copy behind each. */
    private static Net readers(int count) {
        Net net = new Net();
        int row = net.row(1);
        for (int i = 0; i <= count; i++) {
            int act = net.act(i < count ? Net.READ : Net.WRITE);
            net.token(act, 1, 0);
            net.chain(act, new int[] {Net.COPY, 0});
        }
        net.token(1 + 2 * count, 2, 7);
        // The later readers come to wait first; the WRITE goes off after all of them.
        for (int i = count - 1; i >= 0; i--) {
            net.way(row, 1 + 2 * i);
        }
        net.way(row, 1 + 2 * count);
        return net;
    }

    private static void readersFirst(Due due) {
        Net net = readers(4);
        net.x.ticks(5);
        due.same("they wait", net.x.about(5), 4);
        net.x.ticks(6);
        due.same("none waits", net.x.about(5), 0);
        due.same("all have given", net.x.about(10), 5);
        order(due, net, 6, 8, 6, 4, 2, 10);
        due.same("an answer is no step", net.x.about(1), 11);
    }

    private static void readersOfColours(Due due) {
        // One READ waits in colour 0 and in two turns; each answer goes on in its own.
        Net net = new Net();
        int row = net.row(1);
        int read = net.act(Net.READ);
        int write = net.act(Net.WRITE);
        int enterRow = net.act(Net.ENTER, 0);
        int nextRow = net.act(Net.NEXT, 0);
        int enterCell = net.begin(Net.ENTER, 0, 0);
        int nextCell = net.act(Net.NEXT, 0);
        net.way(row, read);
        net.token(read, 1, 0);
        net.way(row, enterRow);
        net.way(enterRow, nextRow);
        net.way(enterCell, nextCell);
        net.way(enterRow, read);
        net.way(enterCell, 0, read, 1);
        net.way(nextRow, read);
        net.way(nextCell, 0, read, 1);
        net.way(row, write);
        net.token(write, 1, 0);
        // Its last token comes late: by way of copies.
        int late = net.begin(Net.COPY, 0, 9);
        for (int i = 0; i < 6; i++) {
            late = net.chain(late, new int[] {Net.COPY, 0});
        }
        net.way(late, 0, write, 2);
        net.end(read, 0);
        due.same("ticks", net.x.ticks(4000), Net.DONE);
        due.number(net.x, 0, 9);
        due.same("the turns' answers are strays", net.x.about(7), 2);
        due.same("none waits", net.x.about(5), 0);
        due.same("it waited in three colours", net.x.fired(read), 3);
    }

    private static void clashes(Due due, Net net, int act) {
        for (int seed = 0; seed < SEEDS; seed++) {
            due.same("run", net.x.run(seed, 4000), Net.CLASH);
            due.same("the act of the clash", net.x.about(9), act);
        }
        due.same("ticks", net.x.ticks(4000), Net.CLASH);
        due.same("the act of the clash", net.x.about(9), act);
    }

    private static void isDone(Due due, Net net) {
        for (int seed = 0; seed < SEEDS; seed++) {
            due.same("run", net.x.run(seed, 4000), Net.DONE);
            due.same("no act of a clash", net.x.about(9), -1);
        }
        due.same("ticks", net.x.ticks(4000), Net.DONE);
    }

    private static void clashAtStart(Due due) {
        Net net = new Net();
        net.begin(Net.COPY, 0, 1);
        int plus = net.act(Net.PLUS);
        net.token(plus, 1, 5);
        net.token(plus, 1, 5);
        int last = net.begin(Net.COPY, 0, 1);
        clashes(due, net, plus);
        due.same("no steps", net.x.about(1), 0);
        due.same("with no fuel, too", net.x.run(1, 0), Net.CLASH);
        due.same("one is ready, the last never came", net.x.about(10), 1);
        due.same("left", net.x.about(4), 1);
        due.same("it did not go off", net.x.fired(last), 0);
    }

    private static void clashAtWaiting(Due due) {
        Net net = new Net();
        int plus = net.act(Net.PLUS);
        net.token(plus, 0, 1);
        net.way(net.begin(Net.COPY, 0, 1), plus);
        clashes(due, net, plus);
        due.same("left", net.x.about(4), 1);
        due.same("it never was ready", net.x.about(10), 0);
    }

    private static void clashAtReady(Due due) {
        Net net = new Net();
        int first = net.begin(Net.COPY, 0, 1);
        int second = net.begin(Net.COPY, 0, 1);
        net.way(first, second);
        clashes(due, net, second);
        due.same("it is ready still", net.x.about(10), 1);
        due.same("its token is not left", net.x.about(4), 0);
        due.same("it did not go off", net.x.fired(second), 0);
    }

    private static void clashAtGone(Due due) {
        Net net = new Net();
        int first = net.begin(Net.COPY, 0, 1);
        net.way(net.chain(first, new int[] {Net.COPY, 0}), first);
        clashes(due, net, first);
        due.same("it went off once", net.x.fired(first), 1);
        due.same("steps", net.x.about(1), 2);
        // An act that gives to itself has had its token, too.
        net = new Net();
        int self = net.begin(Net.COPY, 0, 1);
        net.way(self, self);
        clashes(due, net, self);
    }

    private static void clashAtAnyPort(Due due) {
        for (int kind = 0; kind <= 21; kind++) {
            int ports = Net.portsOf(kind, 3);
            for (int port = 0; port < ports; port++) {
                Net net = new Net();
                net.x.act(kind, 0, 3);
                for (int p = 0; p < ports; p++) {
                    net.token(0, p, 1);
                }
                net.way(net.begin(Net.COPY, 0, 1), 0, 0, port);
                clashes(due, net, 0);
                due.same("it went off ahead of it", net.x.fired(0), 1);
            }
        }
    }

    private static void clashOfTwoWays(Due due) {
        Net net = new Net();
        int from = net.begin(Net.COPY, 0, 1);
        int to = net.act(Net.COPY);
        net.way(from, to);
        isDone(due, net);
        net.way(from, to);
        clashes(due, net, to);
        due.same("the first one is ready", net.x.about(10), 1);
    }

    private static void clashAtParameter(Due due) {
        Net net = new Net();
        int parameter = net.act(Net.PARAMETER, 0);
        net.begin(Net.CALL, 0, 1);
        net.way(net.chain(parameter, new int[] {Net.COPY, 0}), parameter);
        clashes(due, net, parameter);
    }

    private static void clashOfReturns(Due due) {
        Net net = new Net();
        int parameter = net.act(Net.PARAMETER, 0);
        int call = net.begin(Net.CALL, 0, 1);
        int to = net.chain(call, new int[] {Net.COPY, 0});
        net.chain(parameter, new int[] {Net.RETURN, 0});
        isDone(due, net);
        net.chain(parameter, new int[] {Net.RETURN, 0});
        clashes(due, net, to);
    }

    private static void clashOfLeaves(Due due) {
        // One LEAVE goes off in turn 0 and in turn 1: both come to colour 0.
        Net net = new Net();
        int enter = net.begin(Net.ENTER, 0, 1);
        int leave = net.chain(enter, LEAVE);
        int to = net.chain(leave, new int[] {Net.COPY, 0});
        isDone(due, net);
        net.way(net.chain(enter, new int[] {Net.NEXT, 0}), leave);
        clashes(due, net, to);
    }

    private static void noClashOfColours(Due due) {
        Net net = new Net();
        int copy = net.begin(Net.COPY, 0, 1);
        int enter = net.begin(Net.ENTER, 0, 1);
        net.way(enter, copy);
        net.way(net.begin(Net.ENTER, 1, 1), copy);
        net.way(net.chain(enter, new int[] {Net.NEXT, 0}), copy);
        isDone(due, net);
        due.same("once in each colour", net.x.fired(copy), 4);
    }

    /** Two WRITEs of 5 and 6 into the given cells of one row of two (act 0); acts 1 and 2. */
    private static Net writes(int cellA, int cellB) {
        Net net = new Net();
        int row = net.row(2);
        int[] cells = {cellA, cellB};
        for (int i = 0; i < 2; i++) {
            int write = net.act(Net.WRITE);
            net.way(row, write);
            net.token(write, 1, cells[i]);
            net.token(write, 2, 5 + i);
        }
        net.end(2, 0);
        return net;
    }

    private static void clashOfWrites(Due due) {
        Net net = writes(1, 1);
        for (int seed = 0; seed < SEEDS; seed++) {
            due.same("run", net.x.run(seed, 4000), Net.CLASH);
            int second = net.x.about(9);
            due.holds("it is one of the two", second == 1 || second == 2);
            due.same("the first one's number stays", net.x.cell(0, 1, 1), second == 2 ? 5 : 6);
        }
        due.same("ticks", net.x.ticks(4000), Net.CLASH);
        due.same("that writes", net.x.about(9), 2);
        due.same("it gives nothing", net.x.about(10), 0);
        due.noEnd(net.x, 0);
        // A cell that 0, a ROW or a FAULT was written to is written.
        for (int sort = 1; sort <= 3; sort++) {
            net = writes(0, 0);
            net.x.clear(0);
            net.token(0, 0, 2);
            net.token(1, 1, 0);
            net.token(2, 1, 0);
            net.token(2, 2, 6);
            int z = sort == 1 ? net.begin(Net.COPY, 0, 0) : sort == 2 ? net.row(0) : net.fault();
            net.way(z, 0, 1, 2);
            due.same("ticks", net.x.ticks(4000), Net.CLASH);
            due.same("by run", net.x.run(3, 4000), Net.CLASH);
        }
    }

    private static void noClashOfFaultyWrite(Due due) {
        for (int wrong : new int[] {-1, 2}) {
            Net net = writes(1, wrong);
            isDone(due, net);
            due.fault(net.x, 0, 2, 2);
            isDone(due, writes(wrong, wrong));
        }
        // A FAULT at port 1, and a NUMBER for a ROW, of a WRITE to the row's only written cell.
        Net net = writes(0, 1);
        int third = net.act(Net.WRITE);
        net.way(0, third);
        net.way(net.fault(), 0, third, 1);
        net.token(third, 2, 1);
        int fourth = net.act(Net.WRITE);
        for (int port = 0; port < 3; port++) {
            net.token(fourth, port, 0);
        }
        isDone(due, net);
    }

    private static void noClashOfCells(Due due) {
        isDone(due, writes(0, 1));
        Net net = writes(0, 1);
        int third = net.act(Net.WRITE);
        net.way(net.row(1), third);
        net.token(third, 1, 0);
        net.token(third, 2, 0);
        isDone(due, net);
    }

    private static void clashOfEnds(Due due) {
        for (int sort = 1; sort <= 3; sort++) {
            for (int number : new int[] {0, 9}) {
                Net net = new Net();
                int first = sort == 1 ? net.begin(Net.COPY, 0, 0) : sort == 2 ? net.row(0) : net.fault();
                net.end(first, number);
                int second = net.chain(net.begin(Net.COPY, 0, 3), new int[] {Net.COPY, 0});
                net.end(second, 9 - number);
                isDone(due, net);
                int late = net.end(second, number);
                due.same("run", net.x.run(1, 4000), Net.CLASH);
                due.same("ticks", net.x.ticks(4000), Net.CLASH);
                due.same("the END", net.x.about(9), late);
                due.same("the first VALUE stays", net.x.end(number, 0), sort);
            }
        }
    }

    private static void strays(Due due) {
        // In a turn and in a call.
        Net net = new Net();
        int end = net.end(net.begin(Net.ENTER, 0, 1), 0);
        net.begin(Net.CALL, 0, 1);
        net.way(net.act(Net.PARAMETER, 0), end);
        isDone(due, net);
        due.same("strays", net.x.about(7), 2);
        due.same("it went off", net.x.fired(end), 2);
        due.noEnd(net.x, 0);
    }

    private static void straysWhateverCame(Due due) {
        // Two ENDs of one NUMBER in one turn, and the VALUE of colour 0 ahead or behind.
        Net net = new Net();
        int enter = net.begin(Net.ENTER, 0, 1);
        int end = net.end(enter, 0);
        net.end(enter, 0);
        net.token(end, 0, 8);
        isDone(due, net);
        due.same("strays", net.x.about(7), 2);
        due.number(net.x, 0, 8);
    }

    /**
     * A loop that counts from n down to 0, going on by a NEXT or an ENTER: n + 2 colours in all.
     * Acts: 0 the ENTER, 1 the SWITCH (its side 1 is free), 4 what goes on.
     */
    private static Net counting(int goesOn, int n) {
        Net net = new Net();
        int enter = net.begin(Net.ENTER, 0, n);
        int fork = net.act(Net.SWITCH);
        int one = net.act(Net.CONSTANT, 1);
        int minus = net.act(Net.MINUS);
        int next = net.act(goesOn, 0);
        for (int from : new int[] {enter, next}) {
            net.way(from, 0, fork, 0);
            net.way(from, 0, fork, 1);
        }
        net.way(fork, one);
        net.way(fork, 0, minus, 0);
        net.way(one, 0, minus, 1);
        net.way(minus, next);
        return net;
    }

    private static void endsWith(Due due, Net net, int how, int colours) {
        for (int seed = 0; seed < 3; seed++) {
            due.same("run", net.x.run(seed, 4000), how);
            due.same("colours", net.x.about(8), colours);
            due.same("no act of a clash", net.x.about(9), -1);
        }
        due.same("ticks", net.x.ticks(4000), how);
        due.same("colours", net.x.about(8), colours);
    }

    private static void coloursByNext(Due due) {
        endsWith(due, counting(Net.NEXT, 597), Net.DONE, 599);
        endsWith(due, counting(Net.NEXT, 598), Net.DONE, 600);
        endsWith(due, counting(Net.NEXT, 599), Net.FULL, 600);
    }

    private static void coloursByEnter(Due due) {
        endsWith(due, counting(Net.ENTER, 598), Net.DONE, 600);
        endsWith(due, counting(Net.ENTER, 599), Net.FULL, 600);
    }

    private static Net callingDown(int n) {
        Net net = new Net();
        int call = net.begin(Net.CALL, 0, n);
        int parameter = net.act(Net.PARAMETER, 0);
        int fork = net.act(Net.SWITCH);
        int one = net.act(Net.CONSTANT, 1);
        int minus = net.act(Net.MINUS);
        net.way(parameter, 0, fork, 0);
        net.way(parameter, 0, fork, 1);
        net.way(fork, one);
        net.way(fork, 0, minus, 0);
        net.way(one, 0, minus, 1);
        net.way(minus, call);
        return net;
    }

    private static void coloursByCall(Due due) {
        endsWith(due, callingDown(598), Net.DONE, 600);
        endsWith(due, callingDown(599), Net.FULL, 600);
    }

    private static void coloursKnown(Due due) {
        // When 600 are there, LEAVE, and ENTER and NEXT to turns that are there, find room.
        Net net = counting(Net.NEXT, 598);
        int leave = net.act(Net.LEAVE, 0);
        net.way(1, 1, leave, 0);
        int again = net.chain(leave, new int[] {Net.ENTER, 0}, new int[] {Net.NEXT, 0}, LEAVE);
        net.end(again, 0);
        endsWith(due, net, Net.DONE, 600);
        due.number(net.x, 0, 0);
        // A loop that was not entered yet finds none.
        net.chain(leave, new int[] {Net.ENTER, 1});
        endsWith(due, net, Net.FULL, 600);
    }

    /**
     * As counting by NEXT, with so many copies in each turn: n (4 + copies) + copies + 2 pairs,
     * to which the caller adds some in colour 0.
     */
    private static Net manyPairs(int n, int copies) {
        Net net = counting(Net.NEXT, n);
        for (int i = 0; i < copies; i++) {
            int copy = net.act(Net.COPY);
            net.way(0, copy);
            net.way(4, copy);
        }
        return net;
    }

    private static void pairs(Due due) {
        // 299 * 10 + 8 = 2998
        Net net = manyPairs(299, 6);
        net.begin(Net.COPY, 0, 1);
        net.begin(Net.COPY, 0, 1);
        net.act(Net.COPY);
        endsWith(due, net, Net.DONE, 301);
        due.same("3000 went off", net.x.about(1), 3000);
        net.begin(Net.COPY, 0, 1);
        endsWith(due, net, Net.FULL, 301);
    }

    private static void pairsHalfFilled(Due due) {
        Net net = manyPairs(299, 6);
        for (int i = 0; i < 2; i++) {
            net.token(net.act(Net.PLUS), i, 1);
        }
        endsWith(due, net, Net.DONE, 301);
        due.same("left", net.x.about(4), 2);
        net.token(net.act(Net.PLUS), 0, 1);
        endsWith(due, net, Net.FULL, 301);
    }

    /**
     * As counting by NEXT, with six copies in a row ahead of the NEXT, so that one alone is ever
     * ready: 299 * 10 + 2 pairs. When it is over, a copy gives to so many at once.
     */
    private static Net oneByOneThen(int many) {
        Net net = new Net();
        int enter = net.begin(Net.ENTER, 0, 299);
        int fork = net.act(Net.SWITCH);
        int one = net.act(Net.CONSTANT, 1);
        int minus = net.act(Net.MINUS);
        int last = minus;
        for (int i = 0; i < 6; i++) {
            last = net.chain(last, new int[] {Net.COPY, 0});
        }
        int next = net.chain(last, new int[] {Net.NEXT, 0});
        for (int from : new int[] {enter, next}) {
            net.way(from, 0, fork, 0);
            net.way(from, 0, fork, 1);
        }
        net.way(fork, one);
        net.way(fork, 0, minus, 0);
        net.way(one, 0, minus, 1);
        int copy = net.act(Net.COPY);
        net.way(fork, 1, copy, 0);
        for (int i = 0; i < many; i++) {
            net.chain(copy, new int[] {Net.COPY, 0});
        }
        return net;
    }

    private static void pairsReadyAtOnce(Due due) {
        Net net = oneByOneThen(7);
        for (int seed = 0; seed < SEEDS; seed++) {
            due.same("ahead of the last ones", net.x.run(seed, 2993), Net.SPENT);
            due.same("seven are ready", net.x.about(10), 7);
            due.same("run", net.x.run(seed, 4000), Net.DONE);
            due.same("3000 went off", net.x.about(1), 3000);
        }
        due.same("ticks", net.x.ticks(4000), Net.DONE);
        due.same("seven in one", net.x.about(3), 7);
        net = oneByOneThen(8);
        for (int seed = 0; seed < SEEDS; seed++) {
            due.same("run", net.x.run(seed, 4000), Net.FULL);
            due.same("seven have come", net.x.about(10), 7);
        }
    }

    private static void pairsKnown(Due due) {
        // The last token of all comes to the second port of a pair that is there: 3000 with LEAVE.
        Net net = manyPairs(299, 6);
        int plus = net.act(Net.PLUS);
        int late = net.act(Net.COPY);
        int leave = net.act(Net.LEAVE, 0);
        net.token(plus, 0, 1);
        net.way(1, 1, leave, 0);
        net.way(leave, 0, plus, 1);
        endsWith(due, net, Net.DONE, 301);
        due.same("it went off", net.x.fired(plus), 1);
        net.way(leave, late);
        endsWith(due, net, Net.FULL, 301);
    }

    /** As counting by NEXT, with a MAKE of so many cells in each of the n + 1 turns. */
    private static Net making(int n, int cells) {
        Net net = counting(Net.NEXT, n);
        int size = net.act(Net.CONSTANT, cells);
        net.way(0, size);
        net.way(4, size);
        net.chain(size, new int[] {Net.MAKE, 0});
        return net;
    }

    private static void rows(Due due) {
        endsWith(due, making(299, 0), Net.DONE, 301);
        Net net = making(299, 0);
        net.row(0);
        for (int seed = 0; seed < 3; seed++) {
            due.same("the 301st", net.x.run(seed, 4000), Net.FULL);
        }
        due.same("by ticks", net.x.ticks(4000), Net.FULL);
        due.same("the one of colour 0 came early", net.x.fired(7), 1);
        due.same("the 300 of the turns did not find room", net.x.fired(6), 300);
    }

    private static void rowsAndNumbers(Due due) {
        // When 300 ROWS are there, a NUMBER comes where a ROW is wanted.
        for (int x : new int[] {-1, 0, 299, 300, 301, Net.LEAST, Net.MOST}) {
            Net net = making(299, 0);
            int leave = net.act(Net.LEAVE, 0);
            net.way(1, 1, leave, 0);
            int late = net.chain(leave, new int[] {Net.CONSTANT, x});
            int read = net.chain(late, new int[] {Net.READ, 0});
            int write = net.chain(late, new int[] {Net.WRITE, 0});
            int size = net.chain(late, new int[] {Net.SIZE, 0});
            net.token(read, 1, 0);
            net.token(write, 1, 0);
            net.token(write, 2, 0);
            int[] acts = {read, write, size};
            for (int e = 0; e < 3; e++) {
                net.end(acts[e], e);
            }
            due.same("run", net.x.run(1, 4000), Net.DONE);
            due.same("300 rows", net.x.fired(6), 300);
            for (int e = 0; e < 3; e++) {
                due.fault(net.x, e, 4, acts[e]);
            }
        }
    }

    private static void rowsNotMade(Due due) {
        for (int cells : new int[] {-1, 201}) {
            endsWith(due, making(400, cells), Net.DONE, 402);
            Net net = making(299, 0);
            net.row(cells);
            endsWith(due, net, Net.DONE, 301);
        }
    }

    private static void cells(Due due) {
        int[][] fit = {{200}, {199, 1}, {200, 0}, {200, 201, -1}, {0, 200, 0}};
        int[][] full = {{200, 1}, {199, 2}, {199, 200}, {200, 0, 200}};
        for (int[] last : fit) {
            cellsEnd(due, Net.DONE, last);
        }
        for (int[] last : full) {
            cellsEnd(due, Net.FULL, last);
        }
        // As many small ones as the cells allow: 285 * 7 = 1995.
        due.same("285 of 7", making(284, 7).x.run(1, 4000), Net.DONE);
        due.same("286 of 7", making(285, 7).x.run(1, 4000), Net.FULL);
    }

    /** Nine rows of 200 cells, and more. */
    private static void cellsEnd(Due due, int how, int... more) {
        Net net = new Net();
        for (int i = 0; i < 9; i++) {
            net.row(200);
        }
        for (int cells : more) {
            net.row(cells);
        }
        for (int seed = 0; seed < SEEDS; seed++) {
            due.same("run", net.x.run(seed, 4000), how);
        }
        due.same("ticks", net.x.ticks(4000), how);
        due.same("the last cell of the ninth", net.x.cell(8, 199, 0), 0);
        int last = 8 + more.length;
        if (how == Net.FULL) {
            due.same("it has no row", net.x.cell(last, 0, 0), -1);
        }
    }

    private static Net chainOfCopies(int n) {
        Net net = new Net();
        int last = net.begin(Net.COPY, 0, 1);
        for (int i = 1; i < n; i++) {
            last = net.chain(last, new int[] {Net.COPY, 0});
        }
        return net;
    }

    private static void spent(Due due) {
        Net net = chainOfCopies(10);
        for (int fuel = 0; fuel <= 11; fuel++) {
            int how = fuel < 10 ? Net.SPENT : Net.DONE;
            due.same("run with fuel " + fuel, net.x.run(1, fuel), how);
            due.same("steps", net.x.about(1), Math.min(fuel, 10));
            due.same("ready", net.x.about(10), fuel < 10 ? 1 : 0);
            due.same("ticks with fuel " + fuel, net.x.ticks(fuel), how);
            due.same("steps", net.x.about(1), Math.min(fuel, 10));
        }
    }

    private static void done(Due due) {
        Net net = new Net();
        due.same("nothing there", net.x.run(1, 0), Net.DONE);
        net.token(net.act(Net.PLUS), 0, 1);
        due.same("tokens left", net.x.run(1, 0), Net.DONE);
        due.same("by ticks", net.x.ticks(0), Net.DONE);
        due.same("left", net.x.about(4), 1);
        int read = net.act(Net.READ);
        net.way(net.row(1), read);
        net.token(read, 1, 0);
        due.same("a reader is not ready", net.x.run(1, 2), Net.DONE);
        due.same("it waits", net.x.about(5), 1);
        due.same("nor by ticks", net.x.ticks(2), Net.DONE);
    }

    private static void endInTheLastStep(Due due) {
        Net net = new Net();
        int self = net.begin(Net.COPY, 0, 1);
        net.way(self, self);
        due.same("spent ahead of it", net.x.run(1, 0), Net.SPENT);
        due.same("clash", net.x.run(1, 1), Net.CLASH);
        due.same("by ticks", net.x.ticks(1), Net.CLASH);
        net = new Net();
        for (int i = 0; i < 11; i++) {
            net.row(200);
        }
        due.same("spent ahead of it", net.x.run(1, 10), Net.SPENT);
        due.same("full", net.x.run(1, 11), Net.FULL);
        due.same("spent ahead of it", net.x.ticks(10), Net.SPENT);
        due.same("full", net.x.ticks(11), Net.FULL);
    }

    private static void clashWithinStep(Due due) {
        Net net = new Net();
        int from = net.begin(Net.COPY, 0, 1);
        int early = net.chain(from, new int[] {Net.COPY, 0});
        int had = net.act(Net.PLUS);
        net.token(had, 0, 1);
        net.way(from, had);
        int late = net.chain(from, new int[] {Net.COPY, 0});
        clashes(due, net, had);
        due.same("what came ahead is ready", net.x.about(10), 1);
        due.same("it did not go off", net.x.fired(early), 0);
        due.same("what comes after never came", net.x.about(4), 1);
        due.same("nor went off", net.x.fired(late), 0);
    }

    private static void clashAmongReaders(Due due) {
        // The readers come to wait as acts 7, 5, 3, 1; the copy behind act 5 has had a token.
        Net net = readers(4);
        net.token(6, 0, 1);
        due.same("ticks", net.x.ticks(4000), Net.CLASH);
        due.same("the act", net.x.about(9), 6);
        due.same("two wait still", net.x.about(5), 2);
        due.same("the first one's copy is ready", net.x.about(10), 1);
        due.same("the cell is written", net.x.cell(0, 0, 1), 7);
    }

    private static void fullWithinStep(Due due) {
        // 332 * 9 + 7 = 2995 pairs, LEAVE, two sums and two copies: 3000.
        Net net = manyPairs(332, 5);
        int[] sums = {net.act(Net.PLUS), net.act(Net.PLUS)};
        int fresh = net.act(Net.COPY);
        int leave = net.act(Net.LEAVE, 0);
        net.way(1, 1, leave, 0);
        net.way(leave, 0, sums[0], 1);
        net.way(leave, fresh);
        net.way(leave, 0, sums[1], 1);
        net.token(sums[0], 0, 1);
        net.token(sums[1], 0, 1);
        net.begin(Net.COPY, 0, 1);
        net.begin(Net.COPY, 0, 1);
        due.same("ticks", net.x.ticks(4000), Net.FULL);
        due.same("no act of a clash", net.x.about(9), -1);
        due.same("what came ahead is ready", net.x.about(10), 1);
        due.same("what comes after never came", net.x.about(4), 1);
        due.same("nothing goes off any more", net.x.fired(sums[0]) + net.x.fired(fresh), 0);
    }

    private static void fullAmongReaders(Due due) {
        // 298 * 10 + 8 = 2988 pairs, LEAVE, MAKE, WRITE, four READs, four copies: 2999.
        Net net = manyPairs(298, 6);
        int row = net.row(1);
        int write = net.act(Net.WRITE);
        net.token(write, 1, 0);
        for (int i = 0; i < 4; i++) {
            int read = net.act(Net.READ);
            net.token(read, 1, 0);
            net.way(row, read);
            net.chain(read, new int[] {Net.COPY, 0});
            net.begin(Net.COPY, 0, 1);
        }
        net.way(row, write);
        int leave = net.act(Net.LEAVE, 0);
        net.way(1, 1, leave, 0);
        net.way(leave, 0, write, 2);
        due.same("ticks", net.x.ticks(4000), Net.FULL);
        due.same("the first has given", net.x.about(10), 1);
        due.same("the second finds no room, two wait still", net.x.about(5), 2);
    }
}
