/** Promise 13: beside. */
public final class BesideTest {
    private static final Due due = new Due("BesideTest");

    public static void main(String[] args) {
        wrongFuel();
        doneAlike();
        spentAlike();
        endsDiffer();
        latestIsTheSecond();
        due.close();
    }

    private static TokenFloor rows() {
        TokenFloor x = new TokenFloor();
        for (int i = 0; i < 6; i++) {
            x.act(17, 0, 0);
            x.act(21, i, 0);
            x.way(2 * i, 0, 2 * i + 1, 0);
            x.token(2 * i, 0, 10 + i);
        }
        return x;
    }

    private static void wrongFuel() {
        TokenFloor x = rows();
        for (int fuel : new int[] {-1, 4001, Integer.MIN_VALUE, Integer.MAX_VALUE}) {
            due.same("beside with fuel " + fuel, x.beside(1, 2, fuel), -2);
            due.same("no run", x.about(0), -1);
        }
        x.run(1, 3);
        due.same("beside with fuel -1", x.beside(1, 2, -1), -2);
        due.same("the latest run stays", x.about(1), 3);
        due.same("fuel 0", x.beside(1, 2, 0), -1);
        due.same("fuel 4000", x.beside(1, 2, 4000), -1);
    }

    /** Rows are made in other orders, but the ends are alike. */
    private static void doneAlike() {
        TokenFloor x = rows();
        for (int seed = 0; seed < 30; seed++) {
            due.same("beside", x.beside(seed, 7 * seed + 1, 12), -1);
            due.same("done", x.about(0), 0);
            due.same("end", x.end(5, 1), 15);
        }
    }

    private static void spentAlike() {
        TokenFloor x = rows();
        for (int seed = 0; seed < 10; seed++) {
            due.same("other acts went off, but both are spent", x.beside(0, seed, 3), -1);
            due.same("spent", x.about(0), 3);
        }
    }

    /** A clash beside a copy: with fuel 1 it is the seed's choice whether there is one. */
    private static TokenFloor clashOrNot() {
        TokenFloor x = new TokenFloor();
        x.act(0, 0, 0);
        x.act(0, 0, 0);
        x.act(0, 0, 0);
        x.way(0, 0, 1, 0);
        x.token(0, 0, 1);
        x.token(1, 0, 1);
        x.token(2, 0, 1);
        return x;
    }

    private static void endsDiffer() {
        int[] how = new int[20];
        for (int seed = 0; seed < how.length; seed++) {
            how[seed] = clashOrNot().run(seed, 1);
        }
        boolean bothSeen = false;
        for (int a = 0; a < how.length; a++) {
            TokenFloor x = clashOrNot();
            for (int b = 0; b < how.length; b++) {
                bothSeen |= how[a] == 1 && how[b] == 3;
                due.same("beside(" + a + ", " + b + ")", x.beside(a, b, 1), how[a] == how[b] ? -1 : 0);
                due.same("the second's end", x.about(0), how[b]);
            }
        }
        due.holds("both ends were seen", bothSeen);
    }

    private static void latestIsTheSecond() {
        TokenFloor x = rows();
        TokenFloor y = rows();
        for (int seed = 0; seed < 10; seed++) {
            x.beside(99, seed, 4);
            y.run(seed, 4);
            for (int act = 0; act < 12; act++) {
                due.same("fired(" + act + ")", x.fired(act), y.fired(act));
            }
            due.same("no ticks", x.about(2), 0);
            due.same("the most", x.about(3), 1);
        }
    }
}
