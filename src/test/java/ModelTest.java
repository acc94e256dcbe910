import java.util.ArrayList;
import java.util.List;
import java.util.Random;

/** All promises: the program and the plain model answer the same, call by call, on many graphs. */
public final class ModelTest {
    private static final Due due = new Due("ModelTest");

    private final Random random;
    private final TokenFloor x = new TokenFloor();
    private final Model y = new Model();
    private final List<int[]> freePorts = new ArrayList<>();
    private final List<Integer> kinds = new ArrayList<>();
    private static final int[] ended = new int[4];
    private static int readersSeen;

    private ModelTest(long seed) {
        random = new Random(seed);
    }

    public static void main(String[] args) {
        for (int i = 0; i < 3000; i++) {
            new ModelTest(i).someGraph(i % 4);
        }
        for (int i = 0; i < 300; i++) {
            new ModelTest(i).someCalls();
        }
        System.out.println("ModelTest: done " + ended[0] + ", clash " + ended[1] + ", full "
            + ended[2] + ", spent " + ended[3] + ", with readers " + readersSeen);
        for (int how : ended) {
            due.holds("every way to end was seen often", how > 500);
        }
        due.holds("readers waited often", readersSeen > 200);
        due.close();
    }

    private int below(int n) {
        return random.nextInt(n);
    }

    private void act(int kind, int number, int ports) {
        int got = x.act(kind, number, ports);
        due.same("act(" + kind + ", " + number + ", " + ports + ")", got, y.act(kind, number, ports));
        if (got >= 0) {
            kinds.add(kind);
            for (int p = 0; p < x.told(got, 2); p++) {
                freePorts.add(new int[] {got, p});
            }
        }
    }

    private void way(int from, int side, int to, int port) {
        due.same("way", x.way(from, side, to, port), y.way(from, side, to, port));
    }

    private void token(int act, int port, int value) {
        due.same("token", x.token(act, port, value), y.token(act, port, value));
    }

    private int someKind(int theme) {
        int[][] themes = {
            {0, 1, 2, 3, 4, 5, 6, 7, 8, 9, 10, 10, 21, 21, 17, 20},
            {0, 1, 2, 3, 7, 10, 10, 11, 11, 12, 12, 12, 13, 13, 21, 9},
            {0, 1, 2, 10, 14, 14, 14, 15, 15, 15, 16, 16, 21, 11, 13, 3},
            {17, 17, 18, 18, 18, 18, 19, 19, 19, 19, 20, 8, 0, 21, 11, 1},
        };
        return themes[theme][below(16)];
    }

    private int someNumber(int kind) {
        if (kind == 15) {
            return 10 * below(2) + below(3);
        }
        return kind == 21 ? below(10) : kind == 1 ? below(5) - 1 : below(2);
    }

    /** Most ports get one way or one token, so that many runs get far; a few get more. */
    private void someGraph(int theme) {
        int acts = 3 + below(30);
        for (int i = 0; i < acts; i++) {
            int kind = someKind(theme);
            act(kind, someNumber(kind), 1 + below(3));
        }
        int tokensIn = 10 + below(60);
        for (int[] port : freePorts) {
            // What RETURN and ENTER begin comes by colours; a parameter's port is for calls.
            if (x.told(port[0], 0) == 15 && below(8) > 0) {
                continue;
            }
            if (below(100) < tokensIn) {
                token(port[0], port[1], someValue(port));
            } else {
                someWayTo(port);
            }
        }
        for (int extra = below(12) - 8; extra > 0; extra--) {
            someWayTo(freePorts.get(below(freePorts.size())));
        }
        if (theme > 0 && below(6) == 0) {
            longRun(theme, kinds.size());
        }
        runs();
    }

    /** Three chains round and round, by turns or by calls, that touch the rest of the graph. */
    private void longRun(int theme, int rest) {
        int first = kinds.size();
        boolean calls = theme == 2;
        act(calls ? 14 : 11, 9, 1);
        act(calls ? 15 : 0, calls ? 90 : 0, 0);
        int length = below(8);
        for (int i = 0; i < length; i++) {
            act(below(3) == 0 && theme == 3 ? 17 : 0, 0, 0);
        }
        act(calls ? 14 : 12, 9, 1);
        int last = kinds.size() - 1;
        if (!calls) {
            way(first, 0, first + 1, 0);
            way(last, 0, first + 1, 0);
        }
        for (int i = first + 1; i < last; i++) {
            int to = i + 1;
            // A MAKE hangs beside the chain, for its row is no number of cells.
            while (to < last && kinds.get(to) == 17) {
                way(i, 0, to, 0);
                to++;
            }
            if (kinds.get(i) != 17) {
                way(i, 0, to, 0);
            }
        }
        if (below(2) == 0) {
            way(first + 1 + below(last - first), 0, below(rest), 0);
        }
        token(first, 0, below(20));
    }

    private int someValue(int[] port) {
        int kind = kinds.get(port[0]);
        if (kind == 17) {
            return below(12) == 0 ? below(300) - 20 : below(4);
        }
        return below(30) == 0 ? random.nextInt() : below(4) - (below(4) == 0 ? 2 : 0);
    }

    private void someWayTo(int[] port) {
        int from = below(kinds.size());
        boolean wantsRow = port[1] == 0 && (kinds.get(port[0]) == 18 || kinds.get(port[0]) == 19);
        for (int i = 0; i < 20 && wantsRow && kinds.get(from) != 17; i++) {
            from = below(kinds.size());
        }
        way(from, kinds.get(from) == 10 ? below(2) : 0, port[0], port[1]);
    }

    private void runs() {
        for (int i = 0; i < 3; i++) {
            int seed = random.nextInt();
            int fuel = below(4) == 0 ? below(20) : 4000;
            due.same("run(" + seed + ", " + fuel + ")", x.run(seed, fuel), y.run(seed, fuel));
            tell();
        }
        int fuel = below(3) == 0 ? below(30) : 4000;
        due.same("ticks(" + fuel + ")", x.ticks(fuel), y.ticks(fuel));
        tell();
        int a = random.nextInt();
        int b = random.nextInt();
        due.same("beside", x.beside(a, b, fuel), y.beside(a, b, fuel));
        tell();
    }

    private void tell() {
        if (x.about(0) >= 0) {
            ended[x.about(0)]++;
            readersSeen += x.about(5) > 0 ? 1 : 0;
        }
        for (int what = -1; what <= 11; what++) {
            due.same("about(" + what + ")", x.about(what), y.about(what));
        }
        for (int e = -1; e <= 10; e++) {
            for (int what = -1; what <= 3; what++) {
                due.same("end(" + e + ", " + what + ")", x.end(e, what), y.end(e, what));
            }
        }
        for (int act = -1; act <= kinds.size(); act++) {
            due.same("fired(" + act + ")", x.fired(act), y.fired(act));
            for (int what = -1; what <= 6; what++) {
                due.same("told(" + act + ", " + what + ")", x.told(act, what), y.told(act, what));
            }
            for (int i = -1; i <= 5; i++) {
                int what = below(5) - 1;
                due.same("cell(" + act + ", " + i + ")", x.cell(act, i, what), y.cell(act, i, what));
            }
        }
    }

    /** Calls in any order, wrong ones among them; the graph grows, runs, and is cleared. */
    private void someCalls() {
        for (int i = 0; i < 400; i++) {
            int a = below(12) - 1;
            int b = below(5) - 1;
            int c = below(12) - 1;
            int fuel = below(10) == 0 ? below(2) * 4002 - 1 : below(40);
            switch (below(12)) {
                case 0, 1, 2 -> {
                    int kind = below(24) - 1;
                    act(kind, below(12) - 1, below(5));
                }
                case 3, 4, 5 -> way(a, below(3) == 0 ? b : 0, c, below(3) == 0 ? 1 : 0);
                case 6, 7 -> token(a, b, random.nextInt(5));
                case 8 -> due.same("run", x.run(i, fuel), y.run(i, fuel));
                case 9 -> due.same("ticks", x.ticks(fuel), y.ticks(fuel));
                case 10 -> due.same("beside", x.beside(i, c, fuel), y.beside(i, c, fuel));
                default -> {
                    int what = below(6) < 4 ? 0 : below(5) - 1;
                    due.same("clear", x.clear(what) ? 1 : 0, y.clear(what) ? 1 : 0);
                }
            }
            if (i % 20 == 0) {
                tell();
            }
        }
    }
}
