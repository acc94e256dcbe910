/** PART 2 (promises 6 and 8): loops, calls, what is lost or strays, and the limits of a run. */
public final class ColoursTest {
    private static final Due due = new Due("ColoursTest");

    public static void main(String[] args) {
        loopsShareTurns();
        loopsBesideOneAnother();
        nextInAnotherSort();
        loopInALoop();
        faultsPassThroughLoops();
        callAndReturn();
        callsBesideThemselves();
        parametersByTheFirst();
        lostReturns();
        strays();
        fullOfColours();
        fullOfCalls();
        fullOfPairs();
        due.close();
    }

    /** Two variables of one loop: i counts down, s sums up; they meet in the same turns. */
    private static TokenFloor sumTo(int n) {
        TokenFloor x = new TokenFloor();
        x.act(11, 4, 0);
        x.act(11, 4, 0);
        x.act(0, 0, 0);
        x.act(0, 0, 0);
        x.act(10, 0, 0);
        x.act(10, 0, 0);
        x.act(2, 0, 0);
        x.act(1, 1, 0);
        x.act(3, 0, 0);
        x.act(12, 4, 0);
        x.act(12, 4, 0);
        x.act(13, 4, 0);
        x.act(21, 0, 0);
        x.way(0, 0, 2, 0);
        x.way(1, 0, 3, 0);
        x.way(2, 0, 4, 0);
        x.way(2, 0, 4, 1);
        x.way(2, 0, 5, 1);
        x.way(3, 0, 5, 0);
        x.way(4, 0, 6, 0);
        x.way(5, 0, 6, 1);
        x.way(4, 0, 7, 0);
        x.way(4, 0, 8, 0);
        x.way(7, 0, 8, 1);
        x.way(8, 0, 9, 0);
        x.way(6, 0, 10, 0);
        x.way(9, 0, 2, 0);
        x.way(10, 0, 3, 0);
        x.way(5, 1, 11, 0);
        x.way(11, 0, 12, 0);
        x.token(0, 0, n);
        x.token(1, 0, 0);
        return x;
    }

    private static void loopsShareTurns() {
        TokenFloor x = sumTo(20);
        for (int seed = 0; seed < 20; seed++) {
            due.same("run", x.run(seed, 4000), 0);
            due.same("sum", x.end(0, 1), 210);
            due.same("colours", x.about(8), 22);
            due.same("left", x.about(4), 0);
        }
        due.same("ticks", x.ticks(4000), 0);
        due.same("sum by ticks", x.end(0, 1), 210);
    }

    /** Three loops entered from one colour, each by two acts: each pair of acts shares its turn. */
    private static void loopsBesideOneAnother() {
        TokenFloor x = new TokenFloor();
        for (int i = 0; i < 6; i++) {
            x.act(11, i % 3, 0);
            x.token(i, 0, 1 << i);
        }
        for (int i = 0; i < 3; i++) {
            x.act(2, 0, 0);
            x.act(13, i, 0);
            x.act(21, i, 0);
            int sum = 6 + 3 * i;
            x.way(i, 0, sum, 0);
            x.way(i + 3, 0, sum, 1);
            x.way(sum, 0, sum + 1, 0);
            x.way(sum + 1, 0, sum + 2, 0);
        }
        for (int seed = 0; seed < 10; seed++) {
            due.same("run", x.run(seed, 99), 0);
            due.same("colours", x.about(8), 4);
            for (int i = 0; i < 3; i++) {
                due.same("sum of loop " + i, x.end(i, 1), 9 << i);
            }
        }
    }

    private static void nextInAnotherSort() {
        for (int kind = 12; kind <= 13; kind++) {
            TokenFloor x = new TokenFloor();
            x.act(kind, 3, 0);
            x.act(21, 0, 0);
            x.way(0, 0, 1, 0);
            x.token(0, 0, 9);
            due.same("run", x.run(1, 9), 0);
            due.same("a fault", x.end(0, 0), 3);
            due.same("of cause 5", x.end(0, 1), 5);
            due.same("at act 0", x.end(0, 2), 0);
            due.same("in colour 0", x.about(8), 1);
        }
        // In a turn of loop 1, NEXT and LEAVE of loop 2 stay in that colour.
        for (int kind = 12; kind <= 13; kind++) {
            TokenFloor x = new TokenFloor();
            x.act(11, 1, 0);
            x.act(kind, 2, 0);
            x.act(13, 1, 0);
            x.act(21, 0, 0);
            x.way(0, 0, 1, 0);
            x.way(1, 0, 2, 0);
            x.way(2, 0, 3, 0);
            x.token(0, 0, 9);
            due.same("run", x.run(1, 9), 0);
            due.same("cause", x.end(0, 1), 5);
            due.same("act", x.end(0, 2), 1);
            due.same("colours", x.about(8), 2);
        }
    }

    private static void loopInALoop() {
        // Enter 1, next, enter 1 again within that turn, leave twice: back in colour 0.
        TokenFloor x = new TokenFloor();
        int[] kinds = {11, 12, 11, 12, 12, 13, 13, 21};
        for (int i = 0; i < kinds.length; i++) {
            x.act(kinds[i], kinds[i] == 21 ? 0 : 1, 0);
            if (i > 0) {
                x.way(i - 1, 0, i, 0);
            }
        }
        x.token(0, 0, 6);
        due.same("run", x.run(1, 99), 0);
        due.same("end", x.end(0, 1), 6);
        due.same("colours", x.about(8), 6);
        due.same("strays", x.about(7), 0);
    }

    private static void faultsPassThroughLoops() {
        TokenFloor x = new TokenFloor();
        x.act(5, 0, 0);
        x.act(11, 0, 0);
        x.act(12, 0, 0);
        x.act(13, 0, 0);
        x.act(14, 0, 1);
        x.act(15, 0, 0);
        x.act(16, 0, 0);
        x.act(21, 0, 0);
        x.way(0, 0, 1, 0);
        x.way(1, 0, 2, 0);
        x.way(2, 0, 3, 0);
        x.way(3, 0, 4, 0);
        x.way(5, 0, 6, 0);
        x.way(4, 0, 7, 0);
        x.token(0, 0, 1);
        x.token(0, 1, 0);
        due.same("run", x.run(1, 99), 0);
        due.same("the fault", x.end(0, 0), 3);
        due.same("its cause", x.end(0, 1), 1);
        due.same("its act", x.end(0, 2), 0);
        due.same("colours", x.about(8), 4);
    }

    private static void callAndReturn() {
        TokenFloor x = new TokenFloor();
        x.act(14, 7, 3);
        x.act(15, 70, 0);
        x.act(15, 71, 0);
        x.act(15, 72, 0);
        x.act(3, 0, 0);
        x.act(4, 0, 0);
        x.act(16, 0, 0);
        x.act(21, 9, 0);
        x.way(1, 0, 4, 0);
        x.way(2, 0, 4, 1);
        x.way(4, 0, 5, 0);
        x.way(3, 0, 5, 1);
        x.way(5, 0, 6, 0);
        x.way(6, 0, 7, 0);
        x.token(0, 0, 10);
        x.token(0, 1, 3);
        x.token(0, 2, 5);
        due.same("run", x.run(4, 99), 0);
        due.same("RETURN has no ways of its own", x.end(9, 0), 0);
        x.way(0, 0, 7, 0);
        due.same("run", x.run(4, 99), 0);
        due.same("(10 - 3) * 5", x.end(9, 1), 35);
        due.same("lost", x.about(6), 0);
        due.same("colours", x.about(8), 2);
    }

    private static void callsBesideThemselves() {
        TokenFloor x = new TokenFloor();
        x.act(15, 0, 0);
        x.act(16, 0, 0);
        x.way(0, 0, 1, 0);
        for (int i = 0; i < 10; i++) {
            x.act(14, 0, 1);
            x.act(21, i, 0);
            x.way(2 + 2 * i, 0, 3 + 2 * i, 0);
            x.token(2 + 2 * i, 0, 50 + i);
        }
        due.same("run", x.run(3, 4000), 0);
        for (int i = 0; i < 10; i++) {
            due.same("end " + i, x.end(i, 1), 50 + i);
        }
        due.same("fired", x.fired(0), 10);
        due.same("colours", x.about(8), 11);
    }

    private static void parametersByTheFirst() {
        TokenFloor x = new TokenFloor();
        x.act(14, 1, 2);
        x.act(15, 11, 0);
        x.act(15, 11, 0);
        x.act(15, 1, 0);
        x.token(0, 0, 1);
        x.token(0, 1, 2);
        due.same("run", x.run(1, 9), 0);
        due.same("the first of number 11", x.fired(1), 1);
        due.same("not the second", x.fired(2), 0);
        due.same("not another function's", x.fired(3), 0);
        due.same("the call", x.fired(0), 1);
        due.same("steps", x.about(1), 2);
        due.same("what goes nowhere is not lost", x.about(6), 0);
        x.act(14, 1, 1);
        x.clear(0);
        x.token(4, 0, 1);
        due.same("run", x.run(1, 9), 0);
        due.same("a call of one argument gives no second", x.fired(1), 0);
    }

    private static void lostReturns() {
        // In colour 0 and in a turn of a loop a RETURN is lost.
        TokenFloor x = new TokenFloor();
        x.act(16, 0, 0);
        x.act(11, 0, 0);
        x.act(16, 0, 0);
        x.act(21, 0, 0);
        x.way(0, 0, 3, 0);
        x.way(1, 0, 2, 0);
        x.way(2, 0, 3, 0);
        x.token(0, 0, 1);
        x.token(1, 0, 1);
        due.same("run", x.run(1, 9), 0);
        due.same("lost", x.about(6), 2);
        due.same("no end", x.end(0, 0), 0);
    }

    private static void strays() {
        TokenFloor x = new TokenFloor();
        x.act(11, 0, 0);
        x.act(11, 1, 0);
        x.act(21, 5, 0);
        x.way(0, 0, 2, 0);
        x.way(1, 0, 2, 0);
        x.token(0, 0, 1);
        x.token(1, 0, 1);
        x.token(2, 0, 44);
        for (int seed = 0; seed < 8; seed++) {
            due.same("no clash by strays", x.run(seed, 99), 0);
            due.same("strays", x.about(7), 2);
            due.same("the end", x.end(5, 1), 44);
            due.same("fired", x.fired(2), 3);
        }
    }

    private static void fullOfColours() {
        // Turn after turn without an end: 2 pairs a colour, so the colours are full first.
        TokenFloor x = new TokenFloor();
        x.act(11, 0, 0);
        x.act(12, 0, 0);
        x.way(0, 0, 1, 0);
        x.way(1, 0, 1, 0);
        x.token(0, 0, 1);
        due.same("full", x.run(1, 4000), 2);
        due.same("600 colours", x.about(8), 600);
        due.same("steps, the last one too", x.about(1), 600);
        due.same("fired", x.fired(1), 599);
        due.same("none ready", x.about(10), 0);
        due.same("no act of a clash", x.about(9), -1);
        due.same("just so many", x.run(1, 599), 3);
        due.same("600 colours are allowed", x.about(8), 600);
        due.same("full by ticks", x.ticks(4000), 2);
        due.same("ticks", x.about(2), 600);
    }

    private static void fullOfCalls() {
        TokenFloor x = new TokenFloor();
        x.act(14, 0, 1);
        x.act(15, 0, 0);
        x.way(1, 0, 0, 0);
        x.token(0, 0, 1);
        due.same("full", x.run(1, 4000), 2);
        due.same("colours", x.about(8), 600);
        due.same("calls", x.fired(0), 600);
        due.same("parameters", x.fired(1), 599);
    }

    private static void fullOfPairs() {
        // A turn holds 10 pairs: 9 copies and the NEXT; the first colour holds 1.
        TokenFloor x = new TokenFloor();
        x.act(11, 0, 0);
        for (int i = 1; i <= 9; i++) {
            x.act(0, 0, 0);
            x.way(i - 1, 0, i, 0);
        }
        x.act(12, 0, 0);
        x.way(9, 0, 10, 0);
        x.way(10, 0, 1, 0);
        x.token(0, 0, 1);
        due.same("full", x.run(1, 4000), 2);
        due.same("3000 pairs went off", x.about(1), 3000);
        due.same("colours", x.about(8), 301);
        due.same("none left", x.about(4), 0);
        due.same("the last of them", x.fired(9), 300);
        due.same("spent just ahead of it", x.run(1, 2999), 3);
        due.same("ready", x.about(10), 1);
        due.same("a second token needs no new pair", x.token(0, 0, 1), 2);
        due.same("clash", x.run(1, 4000), 1);
    }
}
