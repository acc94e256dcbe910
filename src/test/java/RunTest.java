/** Promises 6, 8 and 10: run, about, fired; how a run chooses and how it ends. */
public final class RunTest {
    private static final Due due = new Due("RunTest");
    private static final int[] WRONG_FUEL = {-1, 4001, Integer.MIN_VALUE, Integer.MAX_VALUE};

    public static void main(String[] args) {
        wrongFuel();
        chosenBySeed();
        theRowKeepsItsOrder();
        spentOrDone();
        clashAtTheTokens();
        clashAtAPort();
        clashAfterItWentOff();
        clashAtAnEnd();
        waysByNumbers();
        tokensLeft();
        aboutOfNone();
        firedOfNone();
        aRunBeginsAnew();
        due.close();
    }

    private static void wrongFuel() {
        TokenFloor x = new TokenFloor();
        x.act(0, 0, 0);
        x.token(0, 0, 1);
        for (int fuel : WRONG_FUEL) {
            due.same("run with fuel " + fuel, x.run(1, fuel), -1);
            due.same("no run was made", x.about(0), -1);
        }
        due.same("fuel 4000", x.run(1, 4000), 0);
        for (int fuel : WRONG_FUEL) {
            due.same("run with fuel " + fuel, x.run(1, fuel), -1);
            due.same("the latest run stays", x.about(1), 1);
        }
        due.same("fuel 0", x.run(1, 0), 3);
    }

    /** Which of n copies goes off as the step-th, by the document's rule alone. */
    private static java.util.List<Integer> order(int seed, int n) {
        java.util.List<Integer> row = new java.util.ArrayList<>();
        for (int i = 0; i < n; i++) {
            row.add(i);
        }
        java.util.List<Integer> gone = new java.util.ArrayList<>();
        int s = seed;
        for (int i = 0; i < n; i++) {
            s = 1103515245 * s + 12345;
            gone.add(row.remove((s >>> 16) % row.size()));
        }
        return gone;
    }

    private static void chosenBySeed() {
        int n = 40;
        for (int seed : new int[] {0, 1, 2, -1, 12345, Integer.MIN_VALUE, Integer.MAX_VALUE}) {
            TokenFloor x = new TokenFloor();
            for (int i = 0; i < n; i++) {
                x.act(0, 0, 0);
                x.token(i, 0, i);
            }
            java.util.List<Integer> gone = order(seed, n);
            for (int fuel = 0; fuel <= n; fuel += 13) {
                due.same("run", x.run(seed, fuel), 3);
                due.same("ready still", x.about(10), n - fuel);
                due.same("tokens left", x.about(4), 0);
                for (int act = 0; act < n; act++) {
                    int want = gone.indexOf(act) < fuel ? 1 : 0;
                    due.same("fired(" + act + ") of seed " + seed, x.fired(act), want);
                }
            }
        }
        // By hand: 1103515245 + 12345 = 1103527590, >>> 16 is 16838, % 3 is 2.
        TokenFloor three = new TokenFloor();
        for (int i = 0; i < 3; i++) {
            three.act(0, 0, 0);
        }
        three.token(1, 0, 0);
        three.token(2, 0, 0);
        three.token(0, 0, 0);
        three.run(1, 1);
        due.same("the last of the row went off", three.fired(0), 1);
    }

    /** What becomes ready goes to the row's end; what leaves it leaves the others as they were. */
    private static void theRowKeepsItsOrder() {
        TokenFloor x = new TokenFloor();
        int n = 9;
        for (int i = 0; i < 2 * n; i++) {
            x.act(0, 0, 0);
        }
        java.util.List<Integer> row = new java.util.ArrayList<>();
        for (int i = 0; i < n; i++) {
            x.way(i, 0, n + i, 0);
            x.token(i, 0, 0);
            row.add(i);
        }
        int[] fired = new int[2 * n];
        int s = 99;
        for (int fuel = 1; fuel <= 2 * n; fuel++) {
            s = 1103515245 * s + 12345;
            int act = row.remove((s >>> 16) % row.size());
            fired[act]++;
            if (act < n) {
                row.add(n + act);
            }
            due.same("run", x.run(99, fuel), fuel == 2 * n ? 0 : 3);
            for (int i = 0; i < 2 * n; i++) {
                due.same("fired(" + i + ") with fuel " + fuel, x.fired(i), fired[i]);
            }
        }
    }

    private static void spentOrDone() {
        TokenFloor x = new TokenFloor();
        x.act(0, 0, 0);
        x.act(21, 0, 0);
        x.way(0, 0, 1, 0);
        x.token(0, 0, 4);
        int[] how = {3, 3, 0, 0};
        for (int fuel = 0; fuel <= 3; fuel++) {
            int steps = Math.min(fuel, 2);
            due.same("run", x.run(7, fuel), how[fuel]);
            due.same("how", x.about(0), how[fuel]);
            due.same("steps", x.about(1), steps);
            due.same("ticks of run", x.about(2), 0);
            due.same("the most", x.about(3), fuel > 0 ? 1 : 0);
            due.same("ready still", x.about(10), fuel < 2 ? 1 : 0);
            due.same("no clash", x.about(9), -1);
        }
    }

    private static void clashAtTheTokens() {
        TokenFloor x = new TokenFloor();
        x.act(0, 0, 0);
        x.act(2, 0, 0);
        x.act(0, 0, 0);
        x.token(0, 0, 1);
        x.token(1, 1, 1);
        x.token(1, 1, 2);
        x.token(2, 0, 1);
        due.same("run", x.run(1, 9), 1);
        due.same("steps", x.about(1), 0);
        due.same("the most", x.about(3), 0);
        due.same("the act of the clash", x.about(9), 1);
        due.same("one is ready, the last never came", x.about(10), 1);
        due.same("tokens left", x.about(4), 1);
        due.same("even with no fuel", x.run(1, 0), 1);
    }

    private static void clashAtAPort() {
        TokenFloor x = new TokenFloor();
        x.act(0, 0, 0);
        x.act(2, 0, 0);
        x.act(0, 0, 0);
        x.act(0, 0, 0);
        x.way(0, 0, 3, 0);
        x.way(0, 0, 1, 0);
        x.way(0, 0, 2, 0);
        x.token(0, 0, 1);
        x.token(1, 0, 1);
        due.same("run", x.run(1, 9), 1);
        due.same("the step counts", x.about(1), 1);
        due.same("it went off", x.fired(0), 1);
        due.same("the act of the clash", x.about(9), 1);
        due.same("what came ahead is ready, what came after is not", x.about(10), 1);
        due.same("tokens left", x.about(4), 1);
        due.same("clash ahead of spent", x.run(1, 1), 1);
        due.same("spent ahead of it", x.run(1, 0), 3);
    }

    private static void clashAfterItWentOff() {
        TokenFloor x = new TokenFloor();
        x.act(0, 0, 0);
        x.act(0, 0, 0);
        x.way(0, 0, 1, 0);
        x.way(1, 0, 0, 0);
        x.token(0, 0, 1);
        due.same("a port that had one ever", x.run(1, 9), 1);
        due.same("steps", x.about(1), 2);
        due.same("the act", x.about(9), 0);
        due.same("fired", x.fired(0), 1);
    }

    private static void clashAtAnEnd() {
        TokenFloor x = new TokenFloor();
        x.act(21, 3, 0);
        x.act(0, 0, 0);
        x.act(21, 3, 0);
        x.way(1, 0, 2, 0);
        x.token(0, 0, 8);
        x.token(1, 0, 9);
        due.same("two ends of one number", x.ticks(9), 1);
        due.same("the act", x.about(9), 2);
        due.same("the first stays", x.end(3, 1), 8);
        due.same("the second went off", x.fired(2), 1);
    }

    private static void waysByNumbers() {
        // The switch's sides are mixed on purpose: by numbers means within one side.
        TokenFloor x = new TokenFloor();
        x.act(10, 0, 0);
        for (int i = 1; i <= 4; i++) {
            x.act(0, 0, 0);
        }
        x.way(0, 0, 3, 0);
        x.way(0, 1, 4, 0);
        x.way(0, 0, 1, 0);
        x.way(0, 0, 2, 0);
        x.token(0, 0, 5);
        x.token(0, 1, 5);
        x.ticks(2);
        due.same("first along way 0", x.fired(3), 1);
        x.ticks(3);
        due.same("then along way 2", x.fired(1), 1);
        due.same("not yet along way 3", x.fired(2), 0);
        x.ticks(9);
        due.same("at last along way 3", x.fired(2), 1);
        due.same("never along side 1", x.fired(4), 0);
    }

    private static void tokensLeft() {
        TokenFloor x = new TokenFloor();
        x.act(19, 0, 0);
        x.act(2, 0, 0);
        x.act(14, 1, 3);
        x.token(0, 0, 1);
        x.token(0, 2, 1);
        x.token(1, 1, 1);
        x.token(2, 0, 1);
        x.token(2, 1, 1);
        due.same("run", x.run(1, 9), 0);
        due.same("left", x.about(4), 5);
        x.token(2, 2, 1);
        x.run(1, 0);
        due.same("those of a ready one do not count", x.about(4), 3);
        due.same("ready", x.about(10), 1);
        x.run(1, 9);
        due.same("nor do those of one that went off", x.about(4), 3);
        due.same("the call's colour", x.about(8), 2);
    }

    private static void aboutOfNone() {
        TokenFloor x = new TokenFloor();
        for (int what = -1; what <= 11; what++) {
            due.same("about without a run", x.about(what), -1);
        }
        x.run(0, 0);
        int[] want = {-1, 0, 0, 0, 0, 0, 0, 0, 0, 1, -1, 0, -1};
        for (int what = -1; what <= 11; what++) {
            due.same("about(" + what + ")", x.about(what), want[what + 1]);
        }
        due.same("about least", x.about(Integer.MIN_VALUE), -1);
        due.same("about most", x.about(Integer.MAX_VALUE), -1);
    }

    private static void firedOfNone() {
        TokenFloor x = new TokenFloor();
        x.act(0, 0, 0);
        due.same("without a run", x.fired(0), -1);
        x.run(1, 1);
        due.same("it never went off", x.fired(0), 0);
        for (int act : new int[] {-1, 1, 80, Integer.MIN_VALUE, Integer.MAX_VALUE}) {
            due.same("fired(" + act + ")", x.fired(act), -1);
        }
        x.act(0, 0, 0);
        due.same("an act that came after the run", x.fired(1), 0);
    }

    private static void aRunBeginsAnew() {
        TokenFloor x = new TokenFloor();
        x.act(10, 0, 0);
        x.act(17, 0, 0);
        x.act(21, 0, 0);
        x.act(18, 0, 0);
        x.way(1, 0, 0, 1);
        x.way(1, 0, 2, 0);
        x.way(1, 0, 3, 0);
        x.token(0, 0, 1);
        x.token(1, 0, 2);
        x.token(3, 1, 1);
        for (int i = 0; i < 3; i++) {
            due.same("run", x.run(i, 99), 0);
            due.same("steps", x.about(1), 4);
            due.same("lost", x.about(6), 1);
            due.same("readers", x.about(5), 1);
            due.same("colours", x.about(8), 1);
            due.same("fired", x.fired(0), 1);
            due.same("end", x.end(0, 1), 2);
            due.same("cell", x.cell(1, 1, 0), 0);
        }
        x.run(1, 0);
        due.same("no end now", x.end(0, 0), 0);
        due.same("no row now", x.cell(1, 1, 0), -1);
        due.same("nothing fired", x.fired(0), 0);
        due.same("no readers", x.about(5), 0);
        due.same("none lost", x.about(6), 0);
    }
}
