/** The edges that promises 6 to 11 and 13 name: one test for each sentence. */
public final class AnswerEdgesTest {
    private static final int[] WRONG_FUEL = {-1, 4001, Net.LEAST, Net.MOST};

    public static void main(String[] args) {
        Sentences all = new Sentences("AnswerEdgesTest");
        all.test("6 FUEL 0 to 4000", AnswerEdgesTest::runFuel);
        all.test("6 NONE, doing nothing: another FUEL", AnswerEdgesTest::runWrongFuel);
        all.test("6 0 DONE, 1 CLASH, 2 FULL, 3 SPENT", AnswerEdgesTest::runAnswers);
        all.test("6 A RUN by a seed (any)", AnswerEdgesTest::runSeeds);
        all.test("7 FUEL 0 to 4000", AnswerEdgesTest::ticksFuel);
        all.test("7 As run(): another FUEL", AnswerEdgesTest::ticksWrongFuel);
        all.test("7 As run(): 0 to 3", AnswerEdgesTest::ticksAnswers);
        all.test("7 each TICK all that are READY go off, in their row", AnswerEdgesTest::ticksInRow);
        all.test("7 what becomes READY by it waits for the next", AnswerEdgesTest::ticksNewOnesWait);
        all.test("7 (SPENT: asked ahead of each STEP.)", AnswerEdgesTest::ticksSpent);
        all.test("8 Of the latest run", AnswerEdgesTest::aboutLatest);
        all.test("8 0 how it ended", AnswerEdgesTest::aboutHow);
        all.test("8 1 STEPS", AnswerEdgesTest::aboutSteps);
        all.test("8 2 TICKS (of ticks(); those that had a STEP)", AnswerEdgesTest::aboutTicks);
        all.test("8 3 the most that went off in one", AnswerEdgesTest::aboutMost);
        all.test("8 3 (of run() 1, if any)", AnswerEdgesTest::aboutMostOfRun);
        all.test("8 4 TOKENS left at PORTS of ACTS that are not READY", AnswerEdgesTest::aboutLeft);
        all.test("8 5 readers that wait", AnswerEdgesTest::aboutReaders);
        all.test("8 6 LOST", AnswerEdgesTest::aboutLost);
        all.test("8 7 STRAYS", AnswerEdgesTest::aboutStrays);
        all.test("8 8 COLOUR", AnswerEdgesTest::aboutColours);
        all.test("8 9 the ACT of the CLASH", AnswerEdgesTest::aboutClash);
        all.test("8 9 (NONE)", AnswerEdgesTest::aboutNoClash);
        all.test("8 10 how many are READY still", AnswerEdgesTest::aboutReady);
        all.test("8 NONE for others", AnswerEdgesTest::aboutOthers);
        all.test("8 NONE without a run", AnswerEdgesTest::aboutWithoutRun);
        all.test("9 what 0: 0 none, 1 a NUMBER, 2 a ROW, 3 a FAULT", AnswerEdgesTest::endSorts);
        all.test("9 1 the NUMBER, the ROW's cells, the cause", AnswerEdgesTest::endContents);
        all.test("9 2 the FAULT's ACT (NONE)", AnswerEdgesTest::endActs);
        all.test("9 NONE: no such end", AnswerEdgesTest::noSuchEnd);
        all.test("9 NONE: no such what", AnswerEdgesTest::noSuchWhatOfEnd);
        all.test("9 NONE: no run", AnswerEdgesTest::endWithoutRun);
        all.test("10 How often an ACT went off", AnswerEdgesTest::firedOften);
        all.test("10 NONE: no such ACT", AnswerEdgesTest::firedOfNoAct);
        all.test("10 NONE: no run", AnswerEdgesTest::firedWithoutRun);
        all.test("11 what 0 to 2 as end()", AnswerEdgesTest::cellSorts);
        all.test("11 the ROW that a MAKE made in COLOUR 0", AnswerEdgesTest::cellOfColourZero);
        all.test("11 NONE: there is no such ROW", AnswerEdgesTest::noSuchRow);
        all.test("11 NONE: no such cell", AnswerEdgesTest::noSuchCell);
        all.test("11 NONE: no such what", AnswerEdgesTest::noSuchWhatOfCell);
        all.test("13 end alike: NONE", AnswerEdgesTest::besideAlike);
        all.test("13 0 how they end", AnswerEdgesTest::besideDiffers);
        all.test("13 (Unless both are DONE only 0 is asked.)", AnswerEdgesTest::besideNotDone);
        all.test("13 FUEL (0 to 4000)", AnswerEdgesTest::besideFuel);
        all.test("13 -2: another FUEL", AnswerEdgesTest::besideWrongFuel);
        all.test("13 The latest run is that by the second seed.", AnswerEdgesTest::besideLatest);
        all.close();
    }

    /** A copy that gives to another one: two steps. */
    private static Net twoSteps() {
        Net net = new Net();
        net.chain(net.begin(Net.COPY, 0, 1), new int[] {Net.COPY, 0});
        return net;
    }

    private static Net clashing() {
        Net net = new Net();
        int self = net.begin(Net.COPY, 0, 1);
        net.way(self, self);
        return net;
    }

    private static Net overfull() {
        Net net = new Net();
        for (int i = 0; i < 11; i++) {
            net.row(200);
        }
        return net;
    }

    private static void runFuel(Due due) {
        Net net = twoSteps();
        due.same("fuel 0", net.x.run(1, 0), Net.SPENT);
        due.same("steps", net.x.about(1), 0);
        due.same("fuel 1", net.x.run(1, 1), Net.SPENT);
        due.same("steps", net.x.about(1), 1);
        due.same("fuel 4000", net.x.run(1, 4000), Net.DONE);
        due.same("steps", net.x.about(1), 2);
    }

    private static void runWrongFuel(Due due) {
        for (int fuel : WRONG_FUEL) {
            Refused.check(due, "run(1, " + fuel + ")", -1, y -> y.run(1, fuel));
        }
    }

    private static void runAnswers(Due due) {
        due.same("done", twoSteps().x.run(1, 2), 0);
        due.same("clash", clashing().x.run(1, 4000), 1);
        due.same("full", overfull().x.run(1, 4000), 2);
        due.same("spent", twoSteps().x.run(1, 1), 3);
    }

    private static void runSeeds(Due due) {
        for (int seed : new int[] {Net.LEAST, -1, 0, 1, Net.MOST}) {
            due.same("run(" + seed + ")", twoSteps().x.run(seed, 2), Net.DONE);
        }
    }

    private static void ticksFuel(Due due) {
        Net net = twoSteps();
        due.same("fuel 0", net.x.ticks(0), Net.SPENT);
        due.same("steps", net.x.about(1), 0);
        due.same("fuel 1", net.x.ticks(1), Net.SPENT);
        due.same("steps", net.x.about(1), 1);
        due.same("fuel 4000", net.x.ticks(4000), Net.DONE);
        due.same("steps", net.x.about(1), 2);
    }

    private static void ticksWrongFuel(Due due) {
        for (int fuel : WRONG_FUEL) {
            Refused.check(due, "ticks(" + fuel + ")", -1, y -> y.ticks(fuel));
        }
    }

    private static void ticksAnswers(Due due) {
        due.same("done", twoSteps().x.ticks(2), 0);
        due.same("clash", clashing().x.ticks(4000), 1);
        due.same("full", overfull().x.ticks(4000), 2);
        due.same("spent", twoSteps().x.ticks(1), 3);
    }

    private static void ticksInRow(Due due) {
        Net net = new Net();
        for (int i = 0; i < 5; i++) {
            net.act(Net.COPY);
        }
        int[] row = {3, 1, 4, 0, 2};
        for (int act : row) {
            net.token(act, 0, 1);
        }
        for (int fuel = 0; fuel <= 5; fuel++) {
            net.x.ticks(fuel);
            for (int i = 0; i < 5; i++) {
                due.same("act " + row[i] + " with fuel " + fuel, net.x.fired(row[i]), i < fuel ? 1 : 0);
            }
        }
        due.same("all in one", net.x.about(2), 1);
        due.same("five", net.x.about(3), 5);
    }

    /** Acts 0 and 1 are ready; each gives to two more. */
    private static Net twoByTwo() {
        Net net = new Net();
        net.begin(Net.COPY, 0, 1);
        net.begin(Net.COPY, 0, 1);
        for (int i = 0; i < 4; i++) {
            net.chain(i / 2, new int[] {Net.COPY, 0});
        }
        return net;
    }

    private static void ticksNewOnesWait(Due due) {
        Net net = twoByTwo();
        net.x.ticks(2);
        due.same("act 1 goes off ahead of what act 0 gave to", net.x.fired(1), 1);
        due.same("one tick", net.x.about(2), 1);
        due.same("done", net.x.ticks(6), Net.DONE);
        due.same("two ticks", net.x.about(2), 2);
        due.same("four in one", net.x.about(3), 4);
    }

    private static void ticksSpent(Due due) {
        Net net = twoByTwo();
        int[] ticks = {0, 1, 1, 2, 2, 2, 2, 2};
        for (int fuel = 0; fuel <= 7; fuel++) {
            due.same("ticks(" + fuel + ")", net.x.ticks(fuel), fuel < 6 ? Net.SPENT : Net.DONE);
            due.same("steps", net.x.about(1), Math.min(fuel, 6));
            due.same("ticks that had a step", net.x.about(2), ticks[fuel]);
        }
    }

    private static void aboutLatest(Due due) {
        Net net = twoSteps();
        net.x.run(1, 1);
        due.same("of the first run", net.x.about(1), 1);
        net.x.ticks(4000);
        due.same("of the ticks", net.x.about(2), 2);
        net.x.run(1, 0);
        due.same("of the second run", net.x.about(1), 0);
        due.same("it had no ticks", net.x.about(2), 0);
        net.x.beside(1, 2, 1);
        due.same("of the two", net.x.about(1), 1);
        net.begin(Net.COPY, 0, 1);
        due.same("what is built after it changes nothing", net.x.about(10), 1);
        due.same("nor its steps", net.x.about(1), 1);
    }

    private static void aboutHow(Due due) {
        Net[] nets = {twoSteps(), clashing(), overfull(), twoSteps()};
        for (int how = 0; how <= 3; how++) {
            nets[how].x.run(1, how == Net.SPENT ? 1 : 4000);
            due.same("by run", nets[how].x.about(0), how);
            nets[how].x.ticks(how == Net.SPENT ? 1 : 4000);
            due.same("by ticks", nets[how].x.about(0), how);
        }
    }

    private static void aboutSteps(Due due) {
        TokenFloor x = new TokenFloor();
        x.run(1, 9);
        due.same("none", x.about(1), 0);
        Net net = twoByTwo();
        for (int fuel = 0; fuel <= 7; fuel++) {
            net.x.run(3, fuel);
            due.same("with fuel " + fuel, net.x.about(1), Math.min(fuel, 6));
        }
    }

    private static void aboutTicks(Due due) {
        Net net = twoSteps();
        net.x.ticks(0);
        due.same("none had a step", net.x.about(2), 0);
        net.x.ticks(1);
        due.same("one had", net.x.about(2), 1);
        net.x.ticks(2);
        due.same("two had", net.x.about(2), 2);
        net.x.ticks(3);
        due.same("the last one is no tick without a step", net.x.about(2), 2);
        net.x.run(1, 9);
        due.same("of run()", net.x.about(2), 0);
        TokenFloor x = new TokenFloor();
        x.ticks(9);
        due.same("of nothing", x.about(2), 0);
        net = new Net();
        net.begin(Net.COPY, 0, 1);
        net.token(0, 0, 1);
        net.x.ticks(9);
        due.same("of a clash ahead of all steps", net.x.about(2), 0);
        net = clashing();
        net.x.ticks(9);
        due.same("of a clash within the first", net.x.about(2), 1);
    }

    private static void aboutMost(Due due) {
        Net net = twoByTwo();
        int[] most = {0, 1, 2, 2, 2, 3, 4, 4};
        for (int fuel : new int[] {0, 1, 2, 3, 4, 5, 6, 7, 6, 5, 4, 3, 2, 1, 0}) {
            net.x.ticks(fuel);
            due.same("with fuel " + fuel, net.x.about(3), most[fuel]);
        }
        // The most may be in the first.
        net = new Net();
        for (int i = 0; i < 3; i++) {
            net.begin(Net.COPY, 0, 1);
        }
        net.chain(2, new int[] {Net.COPY, 0});
        net.x.ticks(9);
        due.same("three, then one", net.x.about(3), 3);
    }

    private static void aboutMostOfRun(Due due) {
        Net net = twoByTwo();
        net.x.ticks(9);
        net.x.run(1, 0);
        due.same("none", net.x.about(3), 0);
        net.x.run(1, 1);
        due.same("one step", net.x.about(3), 1);
        net.x.run(1, 9);
        due.same("six steps", net.x.about(3), 1);
    }

    private static void aboutLeft(Due due) {
        Net net = new Net();
        int write = net.act(Net.WRITE);
        net.x.run(1, 9);
        due.same("none", net.x.about(4), 0);
        net.token(write, 0, 1);
        net.x.run(1, 9);
        due.same("one", net.x.about(4), 1);
        net.token(write, 2, 1);
        net.x.run(1, 9);
        due.same("two at one act", net.x.about(4), 2);
        int plus = net.act(Net.PLUS);
        net.way(net.begin(Net.ENTER, 0, 1), 0, plus, 1);
        net.token(plus, 1, 1);
        net.x.run(1, 9);
        due.same("at one port in two colours", net.x.about(4), 4);
        net.token(write, 1, 1);
        net.x.run(1, 0);
        due.same("none of a ready one", net.x.about(4), 1);
        net.x.run(1, 9);
        due.same("none of one that went off", net.x.about(4), 2);
    }

    private static void aboutReaders(Due due) {
        Net net = new Net();
        int row = net.row(2);
        for (int i = 0; i <= 2; i++) {
            net.x.run(1, 99);
            due.same("readers", net.x.about(5), i);
            int read = net.act(Net.READ);
            net.way(row, read);
            net.token(read, 1, i / 2);
        }
        int write = net.act(Net.WRITE);
        net.way(row, write);
        net.token(write, 1, 0);
        net.token(write, 2, 9);
        for (int seed = 0; seed < 9; seed++) {
            net.x.run(seed, 99);
            due.same("the one of the other cell waits", net.x.about(5), 1);
        }
        net.x.ticks(4);
        due.same("ahead of the write", net.x.about(5), 3);
    }

    private static void aboutLost(Due due) {
        Net net = new Net();
        net.x.run(1, 9);
        due.same("none", net.x.about(6), 0);
        net.begin(Net.RETURN, 0, 1);
        net.x.run(1, 9);
        due.same("a RETURN", net.x.about(6), 1);
        int fork = net.act(Net.SWITCH);
        net.token(fork, 0, 1);
        net.way(net.row(0), 0, fork, 1);
        net.x.run(1, 9);
        due.same("and a SWITCH", net.x.about(6), 2);
        net.x.run(1, 0);
        due.same("none yet", net.x.about(6), 0);
    }

    private static void aboutStrays(Due due) {
        Net net = new Net();
        int end = net.begin(Net.END, 0, 1);
        net.x.run(1, 9);
        due.same("none", net.x.about(7), 0);
        for (int i = 1; i <= 3; i++) {
            net.way(net.begin(Net.ENTER, i, 1), end);
            net.x.run(1, 99);
            due.same("strays", net.x.about(7), i);
        }
    }

    private static void aboutColours(Due due) {
        Net net = new Net();
        net.x.run(1, 9);
        due.same("colour 0 is one", net.x.about(8), 1);
        int enter = net.begin(Net.ENTER, 0, 1);
        net.begin(Net.ENTER, 0, 1);
        net.x.run(1, 9);
        due.same("a turn that two came to", net.x.about(8), 2);
        int next = net.chain(enter, new int[] {Net.NEXT, 0});
        net.x.run(1, 9);
        due.same("the next turn", net.x.about(8), 3);
        net.chain(next, new int[] {Net.LEAVE, 0}, new int[] {Net.COPY, 0});
        net.x.run(1, 9);
        due.same("back to colour 0", net.x.about(8), 3);
        net.act(Net.PARAMETER, 0);
        net.begin(Net.CALL, 0, 1);
        net.x.run(1, 99);
        due.same("a call", net.x.about(8), 4);
        net.x.run(1, 0);
        due.same("colour 0 alone", net.x.about(8), 1);
    }

    private static void aboutClash(Due due) {
        // Where the second one came: act 0 is an act, too.
        Net net = clashing();
        net.x.run(1, 9);
        due.same("act 0", net.x.about(9), 0);
        // That writes: the second WRITE.
        net = new Net();
        int row = net.row(1);
        for (int i = 0; i < 2; i++) {
            int write = net.act(Net.WRITE);
            net.way(row, write);
            net.token(write, 1, 0);
            net.token(write, 2, i);
        }
        net.x.ticks(99);
        due.same("the second WRITE", net.x.about(9), 2);
        // The END.
        net = new Net();
        net.begin(Net.END, 4, 1);
        net.begin(Net.END, 4, 2);
        net.x.ticks(99);
        due.same("the second END", net.x.about(9), 1);
    }

    private static void aboutNoClash(Due due) {
        Net[] nets = {twoSteps(), overfull(), twoSteps()};
        for (int i = 0; i < 3; i++) {
            nets[i].x.run(1, i == 2 ? 1 : 4000);
            due.same("by run", nets[i].x.about(9), -1);
            nets[i].x.ticks(i == 2 ? 1 : 4000);
            due.same("by ticks", nets[i].x.about(9), -1);
        }
        Net net = clashing();
        net.x.run(1, 9);
        net.x.run(1, 0);
        due.same("a clash of an earlier run", net.x.about(9), -1);
    }

    private static void aboutReady(Due due) {
        Net net = twoByTwo();
        int[] ready = {2, 3, 4, 3, 2, 1, 0};
        for (int fuel = 0; fuel <= 6; fuel++) {
            net.x.ticks(fuel);
            due.same("with fuel " + fuel, net.x.about(10), ready[fuel]);
        }
        net.token(5, 0, 1);
        net.x.ticks(4000);
        due.same("when it clashed", net.x.about(10), 4);
    }

    private static void aboutOthers(Due due) {
        TokenFloor x = Refused.run();
        due.same("the first", x.about(0), Net.DONE);
        due.same("the last", x.about(10), 0);
        for (int what : new int[] {-1, 11, Net.LEAST, Net.MOST}) {
            due.same("about(" + what + ")", x.about(what), -1);
        }
    }

    private static void aboutWithoutRun(Due due) {
        TokenFloor x = Refused.built();
        for (int what = -1; what <= 11; what++) {
            due.same("about(" + what + ")", x.about(what), -1);
        }
    }

    /** Ends 0 to 4: a number, -1, a row of 0 cells, a row of 200, a fault by act 8; 5 to 9 none. */
    private static TokenFloor ends() {
        Net net = new Net();
        net.end(net.begin(Net.COPY, 0, 7), 0);
        net.end(net.begin(Net.COPY, 0, -1), 1);
        net.end(net.row(0), 2);
        net.end(net.row(200), 3);
        net.end(net.fault(), 4);
        net.x.run(1, 99);
        return net.x;
    }

    private static void endSorts(Due due) {
        int[] sorts = {1, 1, 2, 2, 3, 0, 0, 0, 0, 0};
        TokenFloor x = ends();
        for (int e = 0; e <= 9; e++) {
            due.same("end(" + e + ", 0)", x.end(e, 0), sorts[e]);
        }
        x.run(1, 0);
        for (int e = 0; e <= 9; e++) {
            due.same("none yet: end(" + e + ", 0)", x.end(e, 0), 0);
        }
    }

    private static void endContents(Due due) {
        int[] contents = {7, -1, 0, 200, 1, -1, -1, -1, -1, -1};
        TokenFloor x = ends();
        for (int e = 0; e <= 9; e++) {
            due.same("end(" + e + ", 1)", x.end(e, 1), contents[e]);
        }
        for (int cause = 1; cause <= 5; cause++) {
            Net net = new Net();
            int act = faultOf(net, cause);
            net.end(act, 0);
            net.x.run(1, 99);
            due.fault(net.x, 0, cause, act);
        }
    }

    private static int faultOf(Net net, int cause) {
        switch (cause) {
            case 1:
                return net.fault();
            case 2:
                int read = net.chain(net.row(0), new int[] {Net.READ, 0});
                net.token(read, 1, 0);
                return read;
            case 3:
                return net.row(-1);
            case 4:
                return net.chain(net.row(0), new int[] {Net.NOT, 0});
            default:
                return net.begin(Net.NEXT, 0, 1);
        }
    }

    private static void endActs(Due due) {
        TokenFloor x = ends();
        for (int e = 0; e <= 9; e++) {
            due.same("end(" + e + ", 2)", x.end(e, 2), e == 4 ? 8 : -1);
        }
    }

    private static void noSuchEnd(Due due) {
        Net net = new Net();
        for (int e = 0; e <= 9; e++) {
            net.begin(Net.END, e, 50 + e);
        }
        net.x.run(1, 99);
        due.same("the first", net.x.end(0, 1), 50);
        due.same("the last", net.x.end(9, 1), 59);
        for (int e : new int[] {-1, 10, Net.LEAST, Net.MOST}) {
            for (int what = 0; what <= 2; what++) {
                due.same("end(" + e + ", " + what + ")", net.x.end(e, what), -1);
            }
        }
    }

    private static void noSuchWhatOfEnd(Due due) {
        TokenFloor x = ends();
        for (int what : new int[] {-1, 3, Net.LEAST, Net.MOST}) {
            for (int e = 0; e <= 5; e++) {
                due.same("end(" + e + ", " + what + ")", x.end(e, what), -1);
            }
        }
    }

    private static void endWithoutRun(Due due) {
        TokenFloor x = Refused.built();
        for (int e = 0; e <= 9; e++) {
            for (int what = 0; what <= 2; what++) {
                due.same("end(" + e + ", " + what + ")", x.end(e, what), -1);
            }
        }
        x.run(1, 0);
        due.same("with a run, but no value", x.end(0, 0), 0);
    }

    private static void firedOften(Due due) {
        Net net = new Net();
        int copy = net.act(Net.COPY);
        for (int i = 0; i <= 5; i++) {
            net.x.run(1, 99);
            due.same("in so many turns", net.x.fired(copy), i);
            net.way(net.begin(Net.ENTER, i, 1), copy);
        }
        net.x.run(1, 0);
        due.same("not at all", net.x.fired(copy), 0);
        net.x.ticks(99);
        due.same("by ticks", net.x.fired(copy), 6);
    }

    private static void firedOfNoAct(Due due) {
        TokenFloor x = Refused.run();
        due.same("the first", x.fired(0), 1);
        due.same("the last", x.fired(7), 0);
        for (int act : new int[] {-1, 8, 79, 80, Net.LEAST, Net.MOST}) {
            due.same("fired(" + act + ")", x.fired(act), -1);
        }
    }

    private static void firedWithoutRun(Due due) {
        TokenFloor x = Refused.built();
        for (int act = 0; act < 8; act++) {
            due.same("fired(" + act + ")", x.fired(act), -1);
        }
    }

    /** Act 0 makes a row; the acts after it write into its cells 0 to 4; cell 5 stays EMPTY. */
    private static TokenFloor cells() {
        Net net = new Net();
        int row = net.row(6);
        for (int i = 0; i < 5; i++) {
            int write = net.act(Net.WRITE);
            net.way(row, write);
            net.token(write, 1, i);
        }
        int[] from = {net.begin(Net.COPY, 0, 0), net.begin(Net.COPY, 0, -1), net.row(0), net.row(200),
            net.fault()};
        for (int i = 0; i < 5; i++) {
            net.way(from[i], 0, 1 + i, 2);
        }
        net.x.run(1, 99);
        return net.x;
    }

    private static void cellSorts(Due due) {
        int[][] want = {{1, 0, -1}, {1, -1, -1}, {2, 0, -1}, {2, 200, -1}, {3, 1, 10}, {0, -1, -1}};
        TokenFloor x = cells();
        for (int i = 0; i < 6; i++) {
            for (int what = 0; what <= 2; what++) {
                due.same("cell(0, " + i + ", " + what + ")", x.cell(0, i, what), want[i][what]);
            }
        }
    }

    private static void cellOfColourZero(Due due) {
        // The MAKE makes rows of 4 and 5 cells in two turns, and one of 3 in colour 0.
        Net net = new Net();
        int make = net.act(Net.MAKE);
        net.way(net.begin(Net.ENTER, 0, 4), make);
        net.way(net.begin(Net.ENTER, 1, 5), make);
        net.x.run(1, 99);
        due.same("only in turns", net.x.cell(make, 0, 0), -1);
        net.token(make, 0, 3);
        for (int seed = 0; seed < 8; seed++) {
            net.x.run(seed, 99);
            due.same("it went off three times", net.x.fired(make), 3);
            due.same("the third cell", net.x.cell(make, 2, 0), 0);
            due.same("there is no fourth", net.x.cell(make, 3, 0), -1);
        }
    }

    private static void noSuchRow(Due due) {
        TokenFloor x = cells();
        for (int act : new int[] {-1, 1, 6, 10, 11, 79, 80, Net.LEAST, Net.MOST}) {
            due.same("cell(" + act + ", 0, 0)", x.cell(act, 0, 0), -1);
        }
        due.same("a MAKE that has not gone off", x.run(1, 0), Net.SPENT);
        due.same("has no row", x.cell(0, 0, 0), -1);
        for (int cells : new int[] {-1, 201}) {
            Net net = new Net();
            int make = net.row(cells);
            net.x.run(1, 9);
            due.same("nor has one that gave a FAULT", net.x.cell(make, 0, 0), -1);
        }
        Net net = new Net();
        int make = net.row(1);
        due.same("nor any without a run", net.x.cell(make, 0, 0), -1);
        net.x.run(1, 9);
        due.same("it has one", net.x.cell(make, 0, 0), 0);
        int late = net.row(1);
        due.same("a MAKE that came after the run has none", net.x.cell(late, 0, 0), -1);
    }

    private static void noSuchCell(Due due) {
        for (int cells : new int[] {0, 1, 200}) {
            // Between two others: what is past its own cells is theirs.
            Net net = new Net();
            net.row(200);
            int make = net.row(cells);
            net.row(200);
            net.x.ticks(9);
            for (int i : new int[] {-1, cells, cells + 1, Net.LEAST, Net.MOST}) {
                for (int what = 0; what <= 2; what++) {
                    due.same("cell " + i + " of " + cells, net.x.cell(make, i, what), -1);
                }
            }
            if (cells > 0) {
                due.same("the first of " + cells, net.x.cell(make, 0, 0), 0);
                due.same("the last of " + cells, net.x.cell(make, cells - 1, 0), 0);
            }
        }
    }

    private static void noSuchWhatOfCell(Due due) {
        TokenFloor x = cells();
        for (int what : new int[] {-1, 3, Net.LEAST, Net.MOST}) {
            for (int i = 0; i < 6; i++) {
                due.same("cell(0, " + i + ", " + what + ")", x.cell(0, i, what), -1);
            }
        }
    }

    private static void besideAlike(Due due) {
        for (int seed = 0; seed < 9; seed++) {
            Net net = twoByTwo();
            for (int e = 0; e < 5; e++) {
                net.end(net.row(e), e);
            }
            net.end(net.fault(), 9);
            net.begin(Net.RETURN, 0, 1);
            due.same("beside", net.x.beside(seed, ~seed, 4000), -1);
            due.same("done", net.x.about(0), Net.DONE);
        }
        due.same("of nothing", new TokenFloor().beside(1, 2, 0), -1);
    }

    /** Acts 0 and 1 are ready; the one clashes, the other is quiet: with fuel 1 the seed tells. */
    private static Net clashOrSpent() {
        Net net = clashing();
        net.begin(Net.COPY, 0, 1);
        return net;
    }

    private static void besideDiffers(Due due) {
        int seen = 0;
        for (int a = 0; a < 12; a++) {
            for (int b = 0; b < 12; b++) {
                Net net = clashOrSpent();
                boolean alike = net.x.run(a, 1) == net.x.run(b, 1);
                due.same("beside(" + a + ", " + b + ", 1)", net.x.beside(a, b, 1), alike ? -1 : 0);
                seen |= alike ? 1 : 2;
            }
        }
        due.same("both were seen", seen, 3);
    }

    private static void besideNotDone(Due due) {
        int seen = 0;
        for (int b = 1; b < 12; b++) {
            // SPENT: other acts went off. CLASH: at other acts, after other numbers of steps.
            // FULL: others were LOST by then.
            Net net = twoByTwo();
            net.x.run(0, 1);
            int first = net.x.fired(0);
            due.same("spent", net.x.beside(0, b, 1), -1);
            seen |= net.x.fired(0) != first ? 1 : 0;
            net = clashing();
            int other = net.begin(Net.COPY, 0, 1);
            net.way(net.chain(other, new int[] {Net.COPY, 0}), other);
            net.x.run(0, 99);
            int act = net.x.about(9);
            int steps = net.x.about(1);
            due.same("clash", net.x.beside(0, b, 99), -1);
            seen |= net.x.about(9) != act ? 2 : 0;
            seen |= net.x.about(1) != steps ? 4 : 0;
            net = overfull();
            for (int i = 0; i < 8; i++) {
                net.begin(Net.RETURN, 0, 1);
            }
            net.x.run(0, 99);
            int lost = net.x.about(6);
            due.same("full", net.x.beside(0, b, 99), -1);
            seen |= net.x.about(6) != lost ? 8 : 0;
        }
        due.same("all of them differed at times", seen, 15);
    }

    private static void besideFuel(Due due) {
        Net net = twoSteps();
        due.same("fuel 0", net.x.beside(1, 2, 0), -1);
        due.same("spent", net.x.about(0), Net.SPENT);
        due.same("fuel 4000", net.x.beside(1, 2, 4000), -1);
        due.same("done", net.x.about(0), Net.DONE);
    }

    private static void besideWrongFuel(Due due) {
        for (int fuel : WRONG_FUEL) {
            Refused.check(due, "beside(1, 2, " + fuel + ")", -2, y -> y.beside(1, 2, fuel));
        }
    }

    private static void besideLatest(Due due) {
        int seen = 0;
        for (int b = 0; b < 12; b++) {
            Net net = clashOrSpent();
            net.x.beside(1 - b, b, 1);
            TokenFloor alone = clashOrSpent().x;
            alone.run(b, 1);
            for (int what = 0; what <= 10; what++) {
                due.same("about(" + what + ") by seed " + b, net.x.about(what), alone.about(what));
            }
            for (int act = 0; act <= 1; act++) {
                due.same("fired(" + act + ") by seed " + b, net.x.fired(act), alone.fired(act));
            }
            seen |= alone.fired(0) == 1 ? 1 : 2;
        }
        due.same("both choices were seen", seen, 3);
        Net net = twoSteps();
        net.x.ticks(9);
        net.x.beside(1, 2, 9);
        due.same("it had no ticks", net.x.about(2), 0);
        TokenFloor x = new TokenFloor();
        x.beside(1, 2, 9);
        due.same("there is a run where there was none", x.about(0), Net.DONE);
    }
}
