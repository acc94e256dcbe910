/** The edges that PART 2's lines on COLOURS and PART 1's on calls name: one test each. */
public final class ColourEdgesTest {
    public static void main(String[] args) {
        Sentences all = new Sentences("ColourEdgesTest");
        all.test("COLOURS: 0 at first", ColourEdgesTest::zeroAtFirst);
        all.test("ENTER of loop l: to turn 0 of l", ColourEdgesTest::enterMeets);
        all.test("ENTER of loop l: (another l is another COLOUR)", ColourEdgesTest::enterOfAnotherLoop);
        all.test("ENTER: turn 0 of l in c (not in another c)", ColourEdgesTest::enterFromAnotherColour);
        all.test("ENTER of loop l: (l 0 to 9, each of its own)", ColourEdgesTest::tenLoops);
        all.test("NEXT: from turn t to turn t + 1", ColourEdgesTest::nextCounts);
        all.test("NEXT: of l in c (stays in c)", ColourEdgesTest::nextStaysInside);
        all.test("NEXT: of l in c (not in another c)", ColourEdgesTest::nextInAnotherColour);
        all.test("LEAVE: from a turn of l in c to c", ColourEdgesTest::leaveFromAnyTurn);
        all.test("LEAVE: from a turn of l in a turn", ColourEdgesTest::leaveOneLoop);
        all.test("NEXT, LEAVE in COLOUR 0: cause 5", ColourEdgesTest::turnInZero);
        all.test("NEXT, LEAVE in another loop's turn: cause 5", ColourEdgesTest::turnOfAnotherLoop);
        all.test("NEXT, LEAVE in a call: cause 5", ColourEdgesTest::turnInACall);
        all.test("NEXT, LEAVE of the outer loop: cause 5", ColourEdgesTest::turnOfTheOuterLoop);
        all.test("a FAULT of cause 5 in that COLOUR", ColourEdgesTest::faultStaysInColour);
        all.test("NEXT, LEAVE: a FAULT that comes is passed", ColourEdgesTest::faultIsPassed);
        all.test("CALL by ACT a in c: to the call of a in c", ColourEdgesTest::callsApart);
        all.test("CALL by ACT a: (in another c another COLOUR)", ColourEdgesTest::callsInTurns);
        all.test("CALL by ACT a: (a call is no turn)", ColourEdgesTest::callsAndTurnsApart);
        all.test("CALL: 1 to 3 arguments", ColourEdgesTest::argumentsOfCalls);
        all.test("CALL: it gives nothing itself", ColourEdgesTest::callGivesNothing);
        all.test("PARAMETER: NUMBER 10 f + i", ColourEdgesTest::parametersOfFunctions);
        all.test("of each the first ACT of that NUMBER", ColourEdgesTest::firstParameter);
        all.test("none: it goes nowhere", ColourEdgesTest::noParameter);
        all.test("RETURN: to c, along a's WAYS", ColourEdgesTest::returnAlongTheCall);
        all.test("RETURN in COLOUR 0: LOST", ColourEdgesTest::returnInZero);
        all.test("RETURN in a turn: LOST", ColourEdgesTest::returnInATurn);
        all.test("RETURN in a turn in a call: LOST", ColourEdgesTest::returnInATurnInACall);
        all.test("LOST (only SWITCH and RETURN)", ColourEdgesTest::notLost);
        all.close();
    }

    private static final int[] NEXT = {Net.NEXT, 0};

    /** A PLUS whose ports two acts give to: it goes off if both come in one colour. */
    private static void meet(Due due, Net net, int a, int b, boolean meets) {
        int plus = net.act(Net.PLUS);
        net.way(a, 0, plus, 0);
        net.way(b, 0, plus, 1);
        for (int seed = 0; seed < 5; seed++) {
            due.same("run", net.x.run(seed, 99), Net.DONE);
            due.same("they meet", net.x.fired(plus), meets ? 1 : 0);
            due.same("tokens left", net.x.about(4), meets ? 0 : 2);
        }
    }

    private static void zeroAtFirst(Due due) {
        Net net = new Net();
        due.same("run", net.x.run(1, 9), Net.DONE);
        due.same("colours of an empty run", net.x.about(8), 1);
        net.begin(Net.END, 0, 4);
        net.x.run(1, 9);
        due.number(net.x, 0, 4);
        due.same("it is no stray", net.x.about(7), 0);
        due.same("colours", net.x.about(8), 1);
    }

    private static void enterMeets(Due due) {
        for (int l : new int[] {0, 9}) {
            Net net = new Net();
            meet(due, net, net.begin(Net.ENTER, l, 1), net.begin(Net.ENTER, l, 2), true);
            due.same("colours", net.x.about(8), 2);
        }
    }

    private static void enterOfAnotherLoop(Due due) {
        Net net = new Net();
        meet(due, net, net.begin(Net.ENTER, 8, 1), net.begin(Net.ENTER, 9, 2), false);
        due.same("colours", net.x.about(8), 3);
    }

    private static void enterFromAnotherColour(Due due) {
        Net net = new Net();
        int outer = net.begin(Net.ENTER, 1, 1);
        int inner = net.chain(outer, new int[] {Net.ENTER, 0});
        meet(due, net, inner, net.begin(Net.ENTER, 0, 2), false);
        due.same("colours", net.x.about(8), 4);
        // A loop in itself is another colour, too.
        net = new Net();
        outer = net.begin(Net.ENTER, 0, 1);
        inner = net.chain(outer, new int[] {Net.ENTER, 0});
        meet(due, net, inner, outer, false);
        due.same("colours", net.x.about(8), 3);
    }

    private static void tenLoops(Due due) {
        // Each loop is entered by two acts, the one after all loops were entered by the first.
        Net net = new Net();
        int[] first = new int[10];
        for (int l = 0; l <= 9; l++) {
            first[l] = net.begin(Net.ENTER, l, 1);
        }
        int plus = net.act(Net.PLUS);
        for (int l = 0; l <= 9; l++) {
            net.way(first[l], 0, plus, 0);
            net.way(net.begin(Net.ENTER, l, 2), 0, plus, 1);
        }
        for (int seed = 0; seed < 5; seed++) {
            due.same("run", net.x.run(seed, 99), Net.DONE);
            due.same("they meet in each", net.x.fired(plus), 10);
            due.same("colours", net.x.about(8), 11);
        }
        due.same("ticks", net.x.ticks(99), Net.DONE);
        due.same("they meet in each", net.x.fired(plus), 10);
        due.same("colours", net.x.about(8), 11);
    }

    private static void nextCounts(Due due) {
        for (int a = 0; a <= 3; a++) {
            for (int b = 0; b <= 3; b++) {
                Net net = new Net();
                int one = net.begin(Net.ENTER, 0, 1);
                int two = net.begin(Net.ENTER, 0, 2);
                for (int i = 0; i < a; i++) {
                    one = net.chain(one, NEXT);
                }
                for (int i = 0; i < b; i++) {
                    two = net.chain(two, NEXT);
                }
                meet(due, net, one, two, a == b);
                due.same("colours", net.x.about(8), 2 + Math.max(a, b));
            }
        }
    }

    private static void nextStaysInside(Due due) {
        // Two turns on in turn 1 of loop 5, and out again: it meets what is in turn 1 of loop 5.
        Net net = new Net();
        int[] next = {Net.NEXT, 5};
        int turn = net.chain(net.begin(Net.ENTER, 5, 1), next);
        int inner = net.chain(net.begin(Net.ENTER, 5, 1), next, new int[] {Net.ENTER, 0}, NEXT, NEXT,
            new int[] {Net.LEAVE, 0});
        meet(due, net, turn, inner, true);
        due.same("colours", net.x.about(8), 6);
    }

    private static void nextInAnotherColour(Due due) {
        Net net = new Net();
        int[][] inner = {{Net.ENTER, 0}, NEXT};
        int one = net.chain(net.begin(Net.ENTER, 5, 1), inner);
        int two = net.chain(net.begin(Net.ENTER, 6, 1), inner);
        meet(due, net, one, two, false);
        due.same("colours", net.x.about(8), 7);
    }

    private static void leaveFromAnyTurn(Due due) {
        for (int turns = 0; turns <= 3; turns++) {
            Net net = new Net();
            int last = net.begin(Net.ENTER, 0, 6);
            for (int i = 0; i < turns; i++) {
                last = net.chain(last, NEXT);
            }
            net.end(net.chain(last, new int[] {Net.LEAVE, 0}), 0);
            due.same("run", net.x.run(1, 99), Net.DONE);
            due.number(net.x, 0, 6);
            due.same("strays", net.x.about(7), 0);
        }
    }

    private static void leaveOneLoop(Due due) {
        for (int inner = 0; inner <= 1; inner++) {
            Net net = new Net();
            int in = net.chain(net.begin(Net.ENTER, 0, 6), NEXT, new int[] {Net.ENTER, inner});
            int out = net.chain(in, new int[] {Net.LEAVE, inner});
            net.end(out, 0);
            net.end(net.chain(out, new int[] {Net.LEAVE, 0}), 1);
            due.same("run", net.x.run(1, 99), Net.DONE);
            due.noEnd(net.x, 0);
            due.same("the first is in the outer turn still", net.x.about(7), 1);
            due.number(net.x, 1, 6);
        }
    }

    private static void turnInZero(Due due) {
        for (int kind = Net.NEXT; kind <= Net.LEAVE; kind++) {
            for (int l : new int[] {0, 9}) {
                Net net = new Net();
                int act = net.begin(kind, l, 3);
                net.end(act, 0);
                due.same("run", net.x.run(1, 99), Net.DONE);
                due.fault(net.x, 0, 5, act);
                due.same("colours", net.x.about(8), 1);
            }
        }
    }

    private static void turnOfAnotherLoop(Due due) {
        for (int kind = Net.NEXT; kind <= Net.LEAVE; kind++) {
            for (int l : new int[] {0, 2}) {
                Net net = new Net();
                int act = net.chain(net.begin(Net.ENTER, 1, 3), new int[] {kind, l});
                net.end(net.chain(act, new int[] {Net.LEAVE, 1}), 0);
                due.same("run", net.x.run(1, 99), Net.DONE);
                due.fault(net.x, 0, 5, act);
                due.same("colours", net.x.about(8), 2);
            }
        }
    }

    private static void turnInACall(Due due) {
        for (int kind = Net.NEXT; kind <= Net.LEAVE; kind++) {
            for (int l = 0; l <= 9; l++) {
                turnInACall(due, kind, l, false);
                turnInACall(due, kind, l, true);
            }
        }
    }

    /** The call is made by act 0, in colour 0 or in a turn of the same loop. */
    private static void turnInACall(Due due, int kind, int l, boolean inTurn) {
        Net net = new Net();
        int call = net.call(0, 1);
        int act = net.chain(net.act(Net.PARAMETER, 0), new int[] {kind, l});
        net.chain(act, new int[] {Net.RETURN, 0});
        if (inTurn) {
            net.way(net.begin(Net.ENTER, l, 3), call);
            net.end(net.chain(call, new int[] {Net.LEAVE, l}), 0);
        } else {
            net.token(call, 0, 3);
            net.end(call, 0);
        }
        due.same("run", net.x.run(1, 99), Net.DONE);
        due.fault(net.x, 0, 5, act);
        due.same("colours", net.x.about(8), inTurn ? 3 : 2);
    }

    private static void turnOfTheOuterLoop(Due due) {
        for (int kind = Net.NEXT; kind <= Net.LEAVE; kind++) {
            Net net = new Net();
            int inner = net.chain(net.begin(Net.ENTER, 1, 3), new int[] {Net.ENTER, 2});
            int act = net.chain(inner, new int[] {kind, 1});
            net.end(net.chain(act, new int[] {Net.LEAVE, 2}, new int[] {Net.LEAVE, 1}), 0);
            due.same("run", net.x.run(1, 99), Net.DONE);
            due.fault(net.x, 0, 5, act);
            due.same("colours", net.x.about(8), 3);
        }
    }

    private static void faultStaysInColour(Due due) {
        for (int kind = Net.NEXT; kind <= Net.LEAVE; kind++) {
            Net net = new Net();
            int enter = net.begin(Net.ENTER, 1, 3);
            meet(due, net, enter, net.chain(enter, new int[] {kind, 2}), true);
            net = new Net();
            int zero = net.begin(Net.COPY, 0, 3);
            meet(due, net, zero, net.begin(kind, 2, 3), true);
        }
    }

    private static void faultIsPassed(Due due) {
        for (int turns = 0; turns <= 1; turns++) {
            Net net = new Net();
            int fault = net.fault();
            int last = net.chain(fault, new int[] {Net.ENTER, 0});
            last = turns == 1 ? net.chain(last, NEXT) : last;
            net.end(net.chain(last, new int[] {Net.LEAVE, 0}), 0);
            due.same("run", net.x.run(1, 99), Net.DONE);
            due.fault(net.x, 0, 1, fault);
        }
    }

    private static void callsApart(Due due) {
        // Arguments of one call meet; those of two calls of the function do not.
        Net net = new Net();
        int call = net.call(2, 2);
        net.token(call, 0, 30);
        net.token(call, 1, 12);
        meet(due, net, net.act(Net.PARAMETER, 20), net.act(Net.PARAMETER, 21), true);
        due.same("colours", net.x.about(8), 2);
        net = new Net();
        net.begin(Net.CALL, 2, 30);
        int other = net.call(2, 3);
        for (int port = 0; port < 3; port++) {
            net.token(other, port, 7);
        }
        int plus = net.act(Net.PLUS);
        net.way(net.act(Net.PARAMETER, 20), 0, plus, 0);
        net.way(net.act(Net.PARAMETER, 21), 0, plus, 1);
        due.same("run", net.x.run(1, 99), Net.DONE);
        due.same("only in one of the calls", net.x.fired(plus), 1);
        due.same("one is left in the other", net.x.about(4), 1);
        due.same("colours", net.x.about(8), 3);
    }

    private static void callsInTurns(Due due) {
        // One CALL goes off in colour 0, in turn 0 and in turn 1: three calls.
        Net net = new Net();
        int call = net.begin(Net.CALL, 0, 1);
        int enter = net.begin(Net.ENTER, 0, 2);
        net.way(enter, call);
        net.way(net.chain(enter, NEXT), call);
        int parameter = net.act(Net.PARAMETER, 0);
        for (int seed = 0; seed < 6; seed++) {
            due.same("run", net.x.run(seed, 99), Net.DONE);
            due.same("calls", net.x.fired(call), 3);
            due.same("parameters", net.x.fired(parameter), 3);
            due.same("colours", net.x.about(8), 6);
        }
    }

    private static void callsAndTurnsApart(Due due) {
        // Acts 0 to 19 call, acts 20 to 29 enter loops 0 to 9: thirty colours from one.
        Net net = new Net();
        for (int i = 0; i < 20; i++) {
            net.begin(Net.CALL, 0, 1);
        }
        for (int l = 0; l <= 9; l++) {
            net.begin(Net.ENTER, l, 1);
        }
        int copy = net.act(Net.COPY);
        net.way(net.act(Net.PARAMETER, 0), copy);
        for (int l = 0; l <= 9; l++) {
            net.way(20 + l, copy);
        }
        due.same("run", net.x.run(1, 999), Net.DONE);
        due.same("colours", net.x.about(8), 31);
        due.same("once in each", net.x.fired(copy), 30);
    }

    private static void argumentsOfCalls(Due due) {
        for (int arguments = 1; arguments <= 3; arguments++) {
            Net net = new Net();
            int call = net.call(1, arguments);
            for (int i = 0; i < arguments; i++) {
                due.same("not ready yet", net.x.run(1, 0), Net.DONE);
                net.token(call, i, 100 + i);
            }
            for (int i = 0; i < 3; i++) {
                net.act(Net.PARAMETER, 10 + i);
            }
            due.same("run", net.x.run(1, 99), Net.DONE);
            for (int i = 0; i < 3; i++) {
                due.same("parameter " + i, net.x.fired(1 + i), i < arguments ? 1 : 0);
            }
        }
    }

    private static void callGivesNothing(Due due) {
        Net net = new Net();
        int call = net.begin(Net.CALL, 0, 4);
        int end = net.end(call, 0);
        net.act(Net.PARAMETER, 0);
        due.same("run", net.x.run(1, 99), Net.DONE);
        due.same("steps", net.x.about(1), 2);
        due.same("its way leads nowhere without a RETURN", net.x.fired(end), 0);
    }

    private static void parametersOfFunctions(Due due) {
        for (int f = 0; f <= 9; f++) {
            Net net = new Net();
            int call = net.call(f, 3);
            for (int i = 0; i < 3; i++) {
                net.token(call, i, 1);
            }
            for (int number = 0; number <= 99; number++) {
                if (number % 10 <= 2) {
                    net.act(Net.PARAMETER, number);
                }
            }
            due.same("run", net.x.run(1, 99), Net.DONE);
            for (int act = 1; act <= 30; act++) {
                boolean its = net.x.told(act, 1) / 10 == f;
                due.same("parameter " + net.x.told(act, 1) + " of " + f, net.x.fired(act), its ? 1 : 0);
            }
        }
    }

    private static void firstParameter(Due due) {
        Net net = new Net();
        int first = net.act(Net.PARAMETER, 90);
        int second = net.act(Net.PARAMETER, 90);
        net.begin(Net.CALL, 9, 5);
        due.same("run", net.x.run(1, 99), Net.DONE);
        due.same("the first", net.x.fired(first), 1);
        due.same("the second", net.x.fired(second), 0);
        net.act(Net.PARAMETER, 90);
        net.x.run(1, 99);
        due.same("the first still", net.x.fired(first), 1);
    }

    private static void noParameter(Due due) {
        Net net = new Net();
        int call = net.call(3, 3);
        for (int i = 0; i < 3; i++) {
            net.token(call, i, 1);
        }
        int copy = net.chain(net.act(Net.PARAMETER, 32), new int[] {Net.COPY, 0});
        net.act(Net.PARAMETER, 40);
        due.same("run", net.x.run(1, 99), Net.DONE);
        due.same("the third argument has one", net.x.fired(copy), 1);
        due.same("steps", net.x.about(1), 3);
        due.same("lost", net.x.about(6), 0);
        due.same("left", net.x.about(4), 0);
    }

    private static void returnAlongTheCall(Due due) {
        // Two calls in two colours; the RETURN's own way leads nowhere.
        Net net = new Net();
        int back = net.chain(net.act(Net.PARAMETER, 0), new int[] {Net.RETURN, 0});
        net.end(back, 9);
        int outer = net.begin(Net.CALL, 0, 11);
        net.end(outer, 0);
        int inner = net.chain(net.begin(Net.ENTER, 4, 12), new int[] {Net.CALL, 0});
        net.end(net.chain(inner, new int[] {Net.LEAVE, 4}), 1);
        for (int seed = 0; seed < 5; seed++) {
            due.same("run", net.x.run(seed, 99), Net.DONE);
            due.number(net.x, 0, 11);
            due.number(net.x, 1, 12);
            due.noEnd(net.x, 9);
            due.same("strays", net.x.about(7), 0);
            due.same("lost", net.x.about(6), 0);
        }
    }

    /** A RETURN that is lost gives along no ways, neither its own nor a call's. */
    private static void isLost(Due due, Net net, int back) {
        net.end(back, 0);
        due.same("run", net.x.run(1, 99), Net.DONE);
        due.same("it went off", net.x.fired(back), 1);
        due.same("lost", net.x.about(6), 1);
        due.same("strays", net.x.about(7), 0);
        due.noEnd(net.x, 0);
    }

    private static void returnInZero(Due due) {
        Net net = new Net();
        isLost(due, net, net.begin(Net.RETURN, 0, 1));
    }

    private static void returnInATurn(Due due) {
        for (int l = 0; l <= 9; l++) {
            Net net = new Net();
            isLost(due, net, net.chain(net.begin(Net.ENTER, l, 1), new int[] {Net.RETURN, 0}));
            // In the next turn, too.
            net = new Net();
            int enter = net.begin(Net.ENTER, l, 1);
            isLost(due, net, net.chain(enter, new int[] {Net.NEXT, l}, new int[] {Net.RETURN, 0}));
        }
    }

    private static void returnInATurnInACall(Due due) {
        Net net = new Net();
        int call = net.begin(Net.CALL, 0, 1);
        net.end(call, 0);
        int parameter = net.act(Net.PARAMETER, 0);
        isLost(due, net, net.chain(parameter, new int[] {Net.ENTER, 0}, new int[] {Net.RETURN, 0}));
    }

    private static void notLost(Due due) {
        // No ways, no parameter, another sort of colour, a stray: all that is not LOST.
        Net net = new Net();
        net.begin(Net.COPY, 0, 1);
        net.begin(Net.CALL, 0, 1);
        net.begin(Net.NEXT, 0, 1);
        net.begin(Net.LEAVE, 0, 1);
        net.end(net.begin(Net.ENTER, 0, 1), 0);
        int fork = net.act(Net.SWITCH);
        net.token(fork, 0, 1);
        net.token(fork, 1, 0);
        due.same("run", net.x.run(1, 99), Net.DONE);
        due.same("lost", net.x.about(6), 0);
        due.same("strays", net.x.about(7), 1);
    }
}
