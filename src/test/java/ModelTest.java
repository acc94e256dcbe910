import java.util.ArrayList;
import java.util.List;
import java.util.Random;

/**
 * All promises: the program and the plain model answer the same, call by call, on many graphs.
 * No object gets more than the 512 calls that the document speaks of.
 */
public final class ModelTest {
    private static final Due due = new Due("ModelTest");
    private static final int MAX_CALLS = 512;
    private static final int ROUNDS = 5;
    private static final int[] ended = new int[4];
    private static int readersSeen;

    private final Random random;
    private final List<int[]> freePorts = new ArrayList<>();
    private final List<Integer> kinds = new ArrayList<>();
    private final TokenFloor x = new TokenFloor();
    private final Model y = new Model();
    private int calls;

    private ModelTest(long seed) {
        random = new Random(seed);
    }

    public static void main(String[] args) {
        for (int i = 0; i < 3000; i++) {
            // The same graph anew for each round, so that each has calls left to be asked about.
            for (int round = 0; round < ROUNDS; round++) {
                new ModelTest(i).someGraph(i % 4, round);
            }
        }
        for (int i = 0; i < 1000; i++) {
            new ModelTest(i).someCalls();
        }
        System.out.println("ModelTest: done " + ended[0] + ", clash " + ended[1] + ", full "
            + ended[2] + ", spent " + ended[3] + ", with readers " + readersSeen);
        for (int how : ended) {
            due.holds("every way to end was seen often", how > 500);
        }
        due.holds("readers waited often", readersSeen > 200);
        due.close();
    }

    private int below(int n) {
        return random.nextInt(n);
    }

    private boolean mayCall() {
        return calls < MAX_CALLS;
    }

    private void same(String what, int got, int want) {
        calls++;
        due.same(what, got, want);
    }

    private void act(int kind, int number, int ports) {
        int want = y.act(kind, number, ports);
        same("act(" + kind + ", " + number + ", " + ports + ")", x.act(kind, number, ports), want);
        if (want >= 0) {
            kinds.add(kind);
            for (int p = 0; p < y.told(want, 2); p++) {
                freePorts.add(new int[] {want, p});
            }
        }
    }

    private void way(int from, int side, int to, int port) {
        same("way", x.way(from, side, to, port), y.way(from, side, to, port));
    }

    private void token(int act, int port, int value) {
        same("token", x.token(act, port, value), y.token(act, port, value));
    }

    private int someKind(int theme) {
        int[][] themes = {
            {0, 1, 2, 3, 4, 5, 6, 7, 8, 9, 10, 10, 21, 21, 17, 20},
            {0, 1, 2, 3, 7, 10, 10, 11, 11, 12, 12, 12, 13, 13, 21, 9},
            {0, 1, 2, 10, 14, 14, 14, 15, 15, 15, 16, 16, 21, 11, 13, 3},
            {17, 17, 18, 18, 18, 18, 19, 19, 19, 19, 20, 8, 0, 21, 11, 1},
        };
        return themes[theme][below(16)];
    }

    private int someNumber(int kind) {
        if (kind == 15) {
            return 10 * below(2) + below(3);
        }
        return kind == 21 ? below(10) : kind == 1 ? below(5) - 1 : below(2);
    }

    /** Most ports get one way or one token, so that many runs get far; a few get more. */
    private void someGraph(int theme, int round) {
        int acts = 3 + below(30);
        for (int i = 0; i < acts; i++) {
            int kind = someKind(theme);
            act(kind, someNumber(kind), 1 + below(3));
        }
        int tokensIn = 10 + below(60);
        for (int[] port : freePorts) {
            // What RETURN and ENTER begin comes by colours; a parameter's port is for calls.
            if (kinds.get(port[0]) == 15 && below(8) > 0) {
                continue;
            }
            if (below(100) < tokensIn) {
                token(port[0], port[1], someValue(port));
            } else {
                someWayTo(port);
            }
        }
        for (int extra = below(12) - 8; extra > 0; extra--) {
            someWayTo(freePorts.get(below(freePorts.size())));
        }
        if (theme > 0 && below(6) == 0) {
            longRun(theme, kinds.size());
        }
        run(round);
        tell();
    }

    /** Three chains round and round, by turns or by calls, that touch the rest of the graph. */
    private void longRun(int theme, int rest) {
        int first = kinds.size();
        boolean byCalls = theme == 2;
        act(byCalls ? 14 : 11, 9, 1);
        act(byCalls ? 15 : 0, byCalls ? 90 : 0, 0);
        int length = below(8);
        for (int i = 0; i < length; i++) {
            act(below(3) == 0 && theme == 3 ? 17 : 0, 0, 0);
        }
        act(byCalls ? 14 : 12, 9, 1);
        int last = kinds.size() - 1;
        if (!byCalls) {
            way(first, 0, first + 1, 0);
            way(last, 0, first + 1, 0);
        }
        for (int i = first + 1; i < last; i++) {
            int to = i + 1;
            // A MAKE hangs beside the chain, for its row is no number of cells.
            while (to < last && kinds.get(to) == 17) {
                way(i, 0, to, 0);
                to++;
            }
            if (kinds.get(i) != 17) {
                way(i, 0, to, 0);
            }
        }
        if (below(2) == 0) {
            way(first + 1 + below(last - first), 0, below(rest), 0);
        }
        token(first, 0, below(20));
    }

    private int someValue(int[] port) {
        int kind = kinds.get(port[0]);
        if (kind == 17) {
            return below(12) == 0 ? below(300) - 20 : below(4);
        }
        return below(30) == 0 ? random.nextInt() : below(4) - (below(4) == 0 ? 2 : 0);
    }

    private void someWayTo(int[] port) {
        int from = below(kinds.size());
        boolean wantsRow = port[1] == 0 && (kinds.get(port[0]) == 18 || kinds.get(port[0]) == 19);
        for (int i = 0; i < 20 && wantsRow && kinds.get(from) != 17; i++) {
            from = below(kinds.size());
        }
        way(from, kinds.get(from) == 10 ? below(2) : 0, port[0], port[1]);
    }

    /** Three rounds by seeds, one by ticks, one by two seeds. */
    private void run(int round) {
        for (int i = 0; i < round; i++) {
            random.nextLong();
        }
        int seed = random.nextInt();
        int fuel = below(4) == 0 ? below(30) : 4000;
        if (round < 3) {
            same("run(" + seed + ", " + fuel + ")", x.run(seed, fuel), y.run(seed, fuel));
        } else if (round == 3) {
            same("ticks(" + fuel + ")", x.ticks(fuel), y.ticks(fuel));
        } else {
            int other = random.nextInt();
            same("beside", x.beside(seed, other, fuel), y.beside(seed, other, fuel));
        }
    }

    /** As much as the calls that are left allow, the figures of the run first. */
    private void tell() {
        if (y.about(0) >= 0) {
            ended[y.about(0)]++;
            readersSeen += y.about(5) > 0 ? 1 : 0;
        }
        for (int what = -1; what <= 11 && mayCall(); what++) {
            same("about(" + what + ")", x.about(what), y.about(what));
        }
        for (int e = -1; e <= 10 && mayCall(); e++) {
            tellEnd(e, 0);
            tellEnd(e, 1);
            tellEnd(e, below(5) - 1);
        }
        for (int act = -1; act <= kinds.size() && mayCall(); act++) {
            same("fired(" + act + ")", x.fired(act), y.fired(act));
        }
        for (int act = 0; act < kinds.size() && mayCall(); act++) {
            boolean makes = kinds.get(act) == 17;
            for (int i = makes ? -1 : 0; i <= (makes ? 4 : 0); i++) {
                tellCell(act, i, below(5) - 1);
            }
        }
        while (mayCall()) {
            tellAct(below(kinds.size() + 2) - 1, below(8) - 1);
        }
    }

    private void tellEnd(int e, int what) {
        if (mayCall()) {
            same("end(" + e + ", " + what + ")", x.end(e, what), y.end(e, what));
        }
    }

    private void tellCell(int act, int i, int what) {
        if (mayCall()) {
            String call = "cell(" + act + ", " + i + ", " + what + ")";
            same(call, x.cell(act, i, what), y.cell(act, i, what));
        }
    }

    private void tellAct(int act, int what) {
        same("told(" + act + ", " + what + ")", x.told(act, what), y.told(act, what));
    }

    /** Calls in any order, wrong ones among them; the graph grows, runs, and is cleared. */
    private void someCalls() {
        while (mayCall()) {
            int a = below(12) - 1;
            int b = below(5) - 1;
            int c = below(12) - 1;
            int seed = random.nextInt();
            int fuel = below(10) == 0 ? below(2) * 4002 - 1 : below(40);
            switch (below(18)) {
                case 0, 1, 2 -> act(below(24) - 1, below(12) - 1, below(5));
                case 3, 4, 5 -> way(a, below(3) == 0 ? b : 0, c, below(3) == 0 ? 1 : 0);
                case 6, 7 -> token(a, b, below(5));
                case 8 -> same("run", x.run(seed, fuel), y.run(seed, fuel));
                case 9 -> same("ticks", x.ticks(fuel), y.ticks(fuel));
                case 10 -> same("beside", x.beside(seed, c, fuel), y.beside(seed, c, fuel));
                case 11 -> {
                    int what = below(6) < 4 ? 0 : below(5) - 1;
                    same("clear", x.clear(what) ? 1 : 0, y.clear(what) ? 1 : 0);
                }
                case 12, 13 -> same("about", x.about(c), y.about(c));
                case 14 -> same("fired", x.fired(a), y.fired(a));
                case 15 -> tellEnd(a, b);
                case 16 -> tellCell(a, below(5) - 1, b);
                default -> tellAct(a, below(8) - 1);
            }
        }
    }
}
