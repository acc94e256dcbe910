/** The edges that promises 1 to 5 and 12, and the first lines of PART 1, name: one test each. */
public final class GraphEdgesTest {
    private static final int[] NO_ACT_OF_EIGHT = {-1, 8, 79, 80, Net.LEAST, Net.MOST};
    private static final int[] FREE_NUMBERS = {Net.LEAST, -1, 0, 9, 10, 100, Net.MOST};

    public static void main(String[] args) {
        Sentences all = new Sentences("GraphEdgesTest");
        all.test("1 No acts.", GraphEdgesTest::noActs);
        all.test("1 A new object (beside another)", GraphEdgesTest::objectsShareNothing);
        all.test("2 An ACT: its number (from 0 on)", GraphEdgesTest::actsByNumbers);
        all.test("2 NONE: no such KIND", GraphEdgesTest::noSuchKind);
        all.test("2 its NUMBER is not as told (of 11 to 14)", GraphEdgesTest::numbersOfLoopsAndCalls);
        all.test("2 its NUMBER is not as told (of 15)", GraphEdgesTest::numbersOfParameters);
        all.test("2 its NUMBER is not as told (of 21)", GraphEdgesTest::numbersOfEnds);
        all.test("2 NUMBER (of the other KINDS any)", GraphEdgesTest::freeNumbers);
        all.test("2 ports: of CALL 1 to 3", GraphEdgesTest::portsOfCall);
        all.test("2 ports (of others not asked)", GraphEdgesTest::portsNotAsked);
        all.test("2 NONE: 80 are there", GraphEdgesTest::eightyActs);
        all.test("2 80 are there: no PARAMETER by a refused one", GraphEdgesTest::noRefusedParameter);
        all.test("3 A WAY: its number (from 0 on)", GraphEdgesTest::waysByNumbers);
        all.test("3 NONE: no such ACT", GraphEdgesTest::waysOfNoAct);
        all.test("3 NONE: no such SIDE", GraphEdgesTest::waysOfNoSide);
        all.test("3 NONE: no such PORT", GraphEdgesTest::waysToNoPort);
        all.test("3 NONE: 300 are there", GraphEdgesTest::threeHundredWays);
        all.test("4 A TOKEN, a NUMBER: how many", GraphEdgesTest::tokensOfAnyNumber);
        all.test("4 NONE: no such ACT", GraphEdgesTest::tokensAtNoAct);
        all.test("4 NONE: no such PORT", GraphEdgesTest::tokensAtNoPort);
        all.test("4 NONE: 40 are there", GraphEdgesTest::fortyTokens);
        all.test("5 All TOKENS go (what 0)", GraphEdgesTest::clearTokens);
        all.test("5 all WAYS, too (1)", GraphEdgesTest::clearWays);
        all.test("5 all ACTS, too (2)", GraphEdgesTest::clearActs);
        all.test("5 all ACTS go: no PARAMETER is called", GraphEdgesTest::clearParameters);
        all.test("5 there is room again for 80, 300, 40", GraphEdgesTest::clearMakesRoom);
        all.test("5 there is no latest run then", GraphEdgesTest::clearEndsTheRun);
        all.test("5 clear of a new object", GraphEdgesTest::clearOfNothing);
        all.test("5 False, doing nothing: another what", GraphEdgesTest::clearOfAnother);
        all.test("12 KIND (0), NUMBER (1), PORTS (2)", GraphEdgesTest::toldOfAct);
        all.test("12 WAYS of SIDE 0 (3), of SIDE 1 (4)", GraphEdgesTest::toldOfWays);
        all.test("12 TOKENS (5)", GraphEdgesTest::toldOfTokens);
        all.test("12 NONE: there is none such", GraphEdgesTest::toldOfNone);
        all.close();
    }

    private static void noActs(Due due) {
        TokenFloor x = new TokenFloor();
        for (int what = 0; what <= 5; what++) {
            due.same("told(0, " + what + ")", x.told(0, what), -1);
        }
        due.same("way(0, 0, 0, 0)", x.way(0, 0, 0, 0), -1);
        due.same("token(0, 0, 0)", x.token(0, 0, 0), -1);
        due.same("fired(0)", x.fired(0), -1);
        due.same("run", x.run(1, 4000), Net.DONE);
        due.same("steps", x.about(1), 0);
        due.same("fired(0) after a run", x.fired(0), -1);
        due.same("the first act", x.act(Net.COPY, 0, 0), 0);
    }

    private static void objectsShareNothing(Due due) {
        TokenFloor x = Refused.run();
        TokenFloor y = new TokenFloor();
        due.same("no act", y.told(0, 0), -1);
        due.same("no run", y.about(0), -1);
        due.same("the first act", y.act(Net.NOT, 0, 0), 0);
        due.same("the first way", y.way(0, 0, 0, 0), 0);
        due.same("the first token", y.token(0, 0, 1), 1);
        due.holds("clear", y.clear(2));
        due.same("the other's act", x.told(0, 0), Net.CALL);
        due.same("the other's run", x.about(0), Net.DONE);
    }

    private static void actsByNumbers(Due due) {
        TokenFloor x = new TokenFloor();
        for (int kind = 0; kind <= 21; kind++) {
            due.same("act of kind " + kind, x.act(kind, 0, 1), kind);
        }
    }

    private static void noSuchKind(Due due) {
        TokenFloor x = new TokenFloor();
        due.same("the first kind", x.act(0, 0, 1), 0);
        due.same("the last kind", x.act(21, 0, 1), 1);
        for (int kind : new int[] {-1, 22, Net.LEAST, Net.MOST}) {
            Refused.check(due, "act(" + kind + ", 0, 1)", -1, y -> y.act(kind, 0, 1));
        }
    }

    private static void numberZeroToNine(Due due, int kind) {
        TokenFloor x = new TokenFloor();
        for (int number = 0; number <= 9; number++) {
            due.same("act(" + kind + ", " + number + ", 1)", x.act(kind, number, 1), number);
            due.same("its number", x.told(number, 1), number);
        }
        for (int number : new int[] {-1, 10, Net.LEAST, Net.MOST}) {
            Refused.check(due, "act(" + kind + ", " + number + ", 1)", -1, y -> y.act(kind, number, 1));
        }
    }

    private static void numbersOfLoopsAndCalls(Due due) {
        for (int kind = Net.ENTER; kind <= Net.CALL; kind++) {
            numberZeroToNine(due, kind);
        }
    }

    private static void numbersOfEnds(Due due) {
        numberZeroToNine(due, Net.END);
    }

    private static void numbersOfParameters(Due due) {
        TokenFloor x = new TokenFloor();
        int acts = 0;
        for (int f = 0; f <= 9; f++) {
            for (int i = 0; i <= 2; i++) {
                int number = 10 * f + i;
                due.same("act(15, " + number + ", 1)", x.act(Net.PARAMETER, number, 1), acts);
                due.same("its number", x.told(acts, 1), number);
                acts++;
            }
        }
        int[] wrong = {Net.LEAST, -10, -9, -1, 3, 9, 13, 19, 83, 89, 93, 99, 100, 101, 102, Net.MOST};
        for (int number : wrong) {
            Refused.check(due, "act(15, " + number + ", 1)", -1, y -> y.act(Net.PARAMETER, number, 1));
        }
    }

    private static void freeNumbers(Due due) {
        for (int kind = 0; kind <= 20; kind++) {
            if (kind >= Net.ENTER && kind <= Net.PARAMETER) {
                continue;
            }
            TokenFloor x = new TokenFloor();
            for (int i = 0; i < FREE_NUMBERS.length; i++) {
                due.same("act(" + kind + ", " + FREE_NUMBERS[i] + ", 1)",
                    x.act(kind, FREE_NUMBERS[i], 1), i);
                due.same("its number", x.told(i, 1), FREE_NUMBERS[i]);
            }
        }
    }

    private static void portsOfCall(Due due) {
        TokenFloor x = new TokenFloor();
        for (int ports = 1; ports <= 3; ports++) {
            due.same("a call with " + ports, x.act(Net.CALL, 0, ports), ports - 1);
            due.same("its ports", x.told(ports - 1, 2), ports);
        }
        for (int ports : new int[] {0, 4, -1, Net.LEAST, Net.MOST}) {
            Refused.check(due, "act(14, 0, " + ports + ")", -1, y -> y.act(Net.CALL, 0, ports));
        }
    }

    private static void portsNotAsked(Due due) {
        for (int kind = 0; kind <= 21; kind++) {
            if (kind == Net.CALL) {
                continue;
            }
            TokenFloor x = new TokenFloor();
            int[] asked = {Net.LEAST, -1, 0, 1, 2, 3, 4, Net.MOST};
            for (int i = 0; i < asked.length; i++) {
                due.same("act(" + kind + ", 0, " + asked[i] + ")", x.act(kind, 0, asked[i]), i);
                due.same("its ports", x.told(i, 2), Net.portsOf(kind, 0));
            }
        }
    }

    private static void eightyActs(Due due) {
        TokenFloor x = new TokenFloor();
        for (int i = 0; i < 80; i++) {
            due.same("act " + i, x.act(Net.CONSTANT, 1000 + i, 0), i);
        }
        for (int kind = 0; kind <= 21; kind++) {
            due.same("the 81st, of kind " + kind, x.act(kind, 0, 1), -1);
        }
        for (int i = 0; i < 80; i++) {
            due.same("kind of act " + i, x.told(i, 0), Net.CONSTANT);
            due.same("number of act " + i, x.told(i, 1), 1000 + i);
        }
        due.same("there is no act 80", x.told(80, 0), -1);
        due.same("no way to it", x.way(0, 0, 80, 0), -1);
        due.same("no token at it", x.token(80, 0, 0), -1);
        due.same("a way to act 79", x.way(0, 0, 79, 0), 0);
        due.same("a token at act 0", x.token(0, 0, 0), 1);
        due.same("run", x.run(1, 4000), Net.DONE);
        due.same("act 79 went off", x.fired(79), 1);
        due.same("there is none to ask of", x.fired(80), -1);
    }

    private static void noRefusedParameter(Due due) {
        Net net = new Net();
        int call = net.call(4, 1);
        net.token(call, 0, 1);
        for (int i = 1; i < 80; i++) {
            net.act(Net.COPY);
        }
        due.same("the 81st", net.x.act(Net.PARAMETER, 40, 1), -1);
        due.same("run", net.x.run(1, 4000), Net.DONE);
        due.same("the call gave to nobody", net.x.about(1), 1);
    }

    private static void waysByNumbers(Due due) {
        TokenFloor x = Refused.built();
        x.clear(1);
        for (int i = 0; i < 5; i++) {
            due.same("way " + i, x.way(0, 0, 1, 0), i);
        }
    }

    private static void waysOfNoAct(Due due) {
        TokenFloor x = Refused.built();
        due.same("from the last act", x.way(7, 0, 0, 0) >= 0 ? 1 : 0, 1);
        due.same("to the last act", x.way(0, 0, 7, 0) >= 0 ? 1 : 0, 1);
        for (int act : NO_ACT_OF_EIGHT) {
            Refused.check(due, "way(" + act + ", 0, 0, 0)", -1, y -> y.way(act, 0, 0, 0));
            Refused.check(due, "way(0, 0, " + act + ", 0)", -1, y -> y.way(0, 0, act, 0));
        }
    }

    private static void waysOfNoSide(Due due) {
        for (int kind = 0; kind <= 21; kind++) {
            TokenFloor x = new TokenFloor();
            x.act(kind, 0, 1);
            due.same("side -1 of kind " + kind, x.way(0, -1, 0, 0), -1);
            due.same("side 0 of kind " + kind, x.way(0, 0, 0, 0), 0);
            due.same("side 1 of kind " + kind, x.way(0, 1, 0, 0), kind == Net.SWITCH ? 1 : -1);
            due.same("side 2 of kind " + kind, x.way(0, 2, 0, 0), -1);
            due.same("ways of side 0", x.told(0, 3), 1);
            due.same("ways of side 1", x.told(0, 4), kind == Net.SWITCH ? 1 : 0);
        }
        // Act 4 of that graph is a SWITCH, act 0 is none.
        for (int side : new int[] {-1, 2, Net.LEAST, Net.MOST}) {
            Refused.check(due, "way(4, " + side + ", 0, 0)", -1, y -> y.way(4, side, 0, 0));
        }
        for (int side : new int[] {-1, 1, 2, Net.LEAST, Net.MOST}) {
            Refused.check(due, "way(0, " + side + ", 0, 0)", -1, y -> y.way(0, side, 0, 0));
        }
    }

    private static void waysToNoPort(Due due) {
        for (int kind = 0; kind <= 21; kind++) {
            for (int asked = 1; asked <= 3; asked++) {
                TokenFloor x = new TokenFloor();
                x.act(kind, 0, asked);
                int ports = Net.portsOf(kind, asked);
                for (int port = 0; port < ports; port++) {
                    due.same("port " + port + " of kind " + kind, x.way(0, 0, 0, port), port);
                }
                due.same("port past the last of kind " + kind, x.way(0, 0, 0, ports), -1);
                due.same("port -1 of kind " + kind, x.way(0, 0, 0, -1), -1);
                due.same("ways", x.told(0, 3), ports);
            }
        }
        for (int port : new int[] {-1, 1, 2, 3, Net.LEAST, Net.MOST}) {
            Refused.check(due, "way(4, 0, 0, " + port + ")", -1, y -> y.way(4, 0, 0, port));
        }
    }

    private static void threeHundredWays(Due due) {
        Net net = new Net();
        int copy = net.begin(Net.COPY, 0, 8);
        int quiet = net.act(Net.SWITCH);
        int last = net.act(Net.END, 1);
        int late = net.act(Net.END, 2);
        for (int i = 0; i < 299; i++) {
            due.same("way " + i, net.x.way(quiet, i % 2, quiet, 0), i);
        }
        due.same("the 300th", net.x.way(copy, 0, last, 0), 299);
        due.same("the 301st", net.x.way(copy, 0, late, 0), -1);
        due.same("of side 1", net.x.way(quiet, 1, late, 0), -1);
        due.same("ways of the copy", net.x.told(copy, 3), 1);
        due.same("ways of side 0", net.x.told(quiet, 3), 150);
        due.same("ways of side 1", net.x.told(quiet, 4), 149);
        due.same("run", net.x.run(1, 4000), Net.DONE);
        due.number(net.x, 1, 8);
        due.noEnd(net.x, 2);
        net.token(quiet, 0, 3);
        net.token(quiet, 1, 0);
        due.same("a way of side 1 leads to the port again", net.x.run(1, 4000), Net.CLASH);
        due.noEnd(net.x, 2);
    }

    private static void tokensOfAnyNumber(Due due) {
        int[] numbers = {Net.LEAST, -1, 0, 1, Net.MOST};
        Net net = new Net();
        for (int i = 0; i < numbers.length; i++) {
            int end = net.act(Net.END, i);
            due.same("token of " + numbers[i], net.x.token(end, 0, numbers[i]), i + 1);
        }
        net.x.run(1, 4000);
        for (int i = 0; i < numbers.length; i++) {
            due.number(net.x, i, numbers[i]);
        }
        due.same("a second one at a port is taken", net.x.token(0, 0, 1), numbers.length + 1);
        due.same("and clashes in a run", net.x.run(1, 4000), Net.CLASH);
    }

    private static void tokensAtNoAct(Due due) {
        due.same("at the last act", Refused.built().token(7, 1, 1), 5);
        for (int act : NO_ACT_OF_EIGHT) {
            Refused.check(due, "token(" + act + ", 0, 1)", -1, y -> y.token(act, 0, 1));
        }
    }

    private static void tokensAtNoPort(Due due) {
        for (int kind = 0; kind <= 21; kind++) {
            for (int asked = 1; asked <= 3; asked++) {
                TokenFloor x = new TokenFloor();
                x.act(kind, 0, asked);
                int ports = Net.portsOf(kind, asked);
                for (int port = 0; port < ports; port++) {
                    due.same("port " + port + " of kind " + kind, x.token(0, port, 7), port + 1);
                }
                due.same("port past the last of kind " + kind, x.token(0, ports, 7), -1);
                due.same("port -1 of kind " + kind, x.token(0, -1, 7), -1);
                due.same("tokens", x.told(0, 5), ports);
            }
        }
        for (int port : new int[] {-1, 1, 2, 3, Net.LEAST, Net.MOST}) {
            Refused.check(due, "token(0, " + port + ", 1)", -1, y -> y.token(0, port, 1));
        }
    }

    private static void fortyTokens(Due due) {
        Net net = new Net();
        int last = net.act(Net.END, 1);
        int late = net.act(Net.END, 2);
        for (int i = 1; i <= 39; i++) {
            due.same("token " + i, net.x.token(net.act(Net.COPY), 0, i), i);
        }
        due.same("the 40th", net.x.token(last, 0, 400), 40);
        due.same("the 41st at a port that has one", net.x.token(last, 0, 410), -1);
        due.same("the 41st", net.x.token(late, 0, 410), -1);
        due.same("tokens of the one", net.x.told(last, 5), 1);
        due.same("tokens of the other", net.x.told(late, 5), 0);
        due.same("run", net.x.run(1, 4000), Net.DONE);
        due.same("steps", net.x.about(1), 40);
        due.number(net.x, 1, 400);
        due.noEnd(net.x, 2);
    }

    /** An act with a way to an end, and a token. */
    private static Net small() {
        Net net = new Net();
        net.end(net.begin(Net.COPY, 0, 7), 3);
        return net;
    }

    private static void clearTokens(Due due) {
        Net net = small();
        due.holds("clear(0)", net.x.clear(0));
        due.same("no tokens", net.x.told(0, 5), 0);
        due.same("a run has nothing to do", net.x.run(1, 9), Net.DONE);
        due.same("steps", net.x.about(1), 0);
        due.same("tokens count from 1", net.x.token(0, 0, 8), 1);
        net.x.run(1, 9);
        due.number(net.x, 3, 8);
        due.same("the next way", net.x.way(0, 0, 1, 0), 1);
        due.same("the next act", net.x.act(Net.COPY, 0, 0), 2);
    }

    private static void clearWays(Due due) {
        Net net = small();
        due.holds("clear(1)", net.x.clear(1));
        due.same("no tokens", net.x.told(0, 5), 0);
        due.same("no ways", net.x.told(0, 3), 0);
        due.same("tokens count from 1", net.x.token(0, 0, 8), 1);
        due.same("run", net.x.run(1, 9), Net.DONE);
        due.same("the act is there", net.x.fired(0), 1);
        due.noEnd(net.x, 3);
        due.same("ways count from 0", net.x.way(0, 0, 1, 0), 0);
        net.x.run(1, 9);
        due.number(net.x, 3, 8);
        due.same("the next act", net.x.act(Net.COPY, 0, 0), 2);
    }

    private static void clearActs(Due due) {
        Net net = small();
        due.holds("clear(2)", net.x.clear(2));
        due.same("no act", net.x.told(0, 0), -1);
        due.same("no port for a token", net.x.token(0, 0, 1), -1);
        due.same("no act for a way", net.x.way(0, 0, 1, 0), -1);
        due.same("acts count from 0", net.x.act(Net.PLUS, 5, 0), 0);
        due.same("its ways", net.x.told(0, 3), 0);
        due.same("its tokens", net.x.told(0, 5), 0);
        due.same("ways count from 0", net.x.way(0, 0, 0, 0), 0);
        due.same("tokens count from 1", net.x.token(0, 1, 8), 1);
        due.same("run", net.x.run(1, 9), Net.DONE);
        due.same("it waits for its other port", net.x.about(4), 1);
    }

    private static void clearParameters(Due due) {
        TokenFloor x = Refused.built();
        x.clear(2);
        due.same("a call of the function", x.act(Net.CALL, 0, 1), 0);
        due.same("an act where the parameter was", x.act(Net.COPY, 0, 0), 1);
        x.token(0, 0, 1);
        due.same("run", x.run(1, 9), Net.DONE);
        due.same("it goes nowhere", x.fired(1), 0);
        due.same("a new parameter", x.act(Net.PARAMETER, 0, 0), 2);
        x.run(1, 9);
        due.same("is the first now", x.fired(2), 1);
    }

    private static void clearMakesRoom(Due due) {
        TokenFloor x = new TokenFloor();
        for (int i = 0; i < 80; i++) {
            x.act(Net.COPY, 0, 0);
        }
        for (int i = 0; i < 40; i++) {
            x.token(i, 0, 0);
        }
        due.same("the 41st token", x.token(0, 0, 0), -1);
        x.clear(0);
        due.same("a token", x.token(0, 0, 0), 1);
        due.same("the 81st act", x.act(Net.COPY, 0, 0), -1);
        x.clear(2);
        due.same("an act", x.act(Net.COPY, 0, 0), 0);
        for (int i = 0; i < 300; i++) {
            x.way(0, 0, 0, 0);
        }
        due.same("the 301st way", x.way(0, 0, 0, 0), -1);
        x.clear(0);
        due.same("ways stay", x.way(0, 0, 0, 0), -1);
        x.clear(1);
        due.same("a way", x.way(0, 0, 0, 0), 0);
    }

    private static void clearEndsTheRun(Due due) {
        for (int what = 0; what <= 2; what++) {
            TokenFloor x = Refused.run();
            due.same("a cell of the run", x.cell(6, 1, 0), 0);
            due.holds("clear(" + what + ")", x.clear(what));
            for (int i = 0; i <= 10; i++) {
                due.same("about(" + i + ")", x.about(i), -1);
            }
            for (int e = 0; e <= 9; e++) {
                due.same("end(" + e + ", 0)", x.end(e, 0), -1);
            }
            due.same("fired", x.fired(0), -1);
            due.same("cell", x.cell(6, 1, 0), -1);
            due.same("a run makes a new one", x.run(1, 0), Net.DONE);
            due.same("about it", x.about(1), 0);
        }
    }

    private static void clearOfNothing(Due due) {
        for (int what = 0; what <= 2; what++) {
            TokenFloor x = new TokenFloor();
            due.holds("clear(" + what + ")", x.clear(what));
            due.holds("and once more", x.clear(what));
            due.same("the first act", x.act(Net.COPY, 0, 0), 0);
        }
    }

    private static void clearOfAnother(Due due) {
        for (int what : new int[] {-1, 3, Net.LEAST, Net.MOST}) {
            Refused.check(due, "clear(" + what + ")", 0, y -> y.clear(what) ? 1 : 0);
        }
    }

    private static void toldOfAct(Due due) {
        TokenFloor x = new TokenFloor();
        for (int kind = 0; kind <= 21; kind++) {
            x.act(kind, 2, 3);
            due.same("kind", x.told(kind, 0), kind);
            due.same("number", x.told(kind, 1), 2);
            due.same("ports of kind " + kind, x.told(kind, 2), Net.portsOf(kind, 3));
        }
    }

    private static void toldOfWays(Due due) {
        Net net = new Net();
        int fork = net.act(Net.SWITCH);
        int copy = net.act(Net.COPY);
        due.same("none of side 0", net.x.told(fork, 3), 0);
        due.same("none of side 1", net.x.told(fork, 4), 0);
        net.way(fork, 0, copy, 0);
        net.way(fork, 1, copy, 0);
        net.way(fork, 1, copy, 0);
        net.way(copy, 0, fork, 1);
        due.same("of side 0", net.x.told(fork, 3), 1);
        due.same("of side 1", net.x.told(fork, 4), 2);
        due.same("of another act", net.x.told(copy, 3), 1);
        due.same("its side 1 has none", net.x.told(copy, 4), 0);
    }

    private static void toldOfTokens(Due due) {
        Net net = new Net();
        int plus = net.act(Net.PLUS);
        int copy = net.act(Net.COPY);
        due.same("none", net.x.told(plus, 5), 0);
        net.token(plus, 0, 1);
        net.token(plus, 1, 1);
        net.token(plus, 1, 1);
        due.same("of all its ports", net.x.told(plus, 5), 3);
        due.same("none of another act", net.x.told(copy, 5), 0);
        net.x.run(1, 9);
        due.same("a run takes none of them away", net.x.told(plus, 5), 3);
    }

    private static void toldOfNone(Due due) {
        TokenFloor x = Refused.built();
        due.same("the last act", x.told(7, 0), Net.PLUS);
        for (int act : NO_ACT_OF_EIGHT) {
            for (int what = -1; what <= 6; what++) {
                due.same("told(" + act + ", " + what + ")", x.told(act, what), -1);
            }
        }
        due.same("the last what", x.told(0, 5), 1);
        for (int what : new int[] {-1, 6, Net.LEAST, Net.MOST}) {
            due.same("told(0, " + what + ")", x.told(0, what), -1);
        }
    }
}
