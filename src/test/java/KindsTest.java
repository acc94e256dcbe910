/** Promise 9 and the KINDS of PART 1: what each gives for numbers, rows and faults. */
public final class KindsTest {
    private static final Due due = new Due("KindsTest");

    /** A value as a test puts it to a port: sort 1 a number, 2 a row of n cells, 3 a fault. */
    private record Put(int sort, int n) { }

    private static final int END = 0;

    public static void main(String[] args) {
        arithmetic();
        zeroDivisors();
        alike();
        not();
        copiesAndConstants();
        switches();
        makes();
        sizes();
        readsAndWrites();
        faultsFirstByPorts();
        ends();
        due.close();
    }

    private static Put number(int n) {
        return new Put(1, n);
    }

    private static Put row(int cells) {
        return new Put(2, cells);
    }

    /** A fault of cause 1 that comes from act 10 + n. */
    private static Put fault(int n) {
        return new Put(3, n);
    }

    /**
     * Act 0 is the end, act 1 the one under test, acts 2 to 9 make rows, acts 10 and on make
     * faults by dividing by 0.
     */
    private static TokenFloor done(int kind, int number, Put... puts) {
        TokenFloor x = new TokenFloor();
        x.act(21, END, 0);
        x.act(kind, number, puts.length);
        for (int i = 2; i < 10; i++) {
            x.act(17, 0, 0);
        }
        for (int i = 10; i < 20; i++) {
            x.act(5, 0, 0);
        }
        x.way(1, 0, 0, 0);
        for (int port = 0; port < puts.length; port++) {
            put(x, port, puts[port]);
        }
        due.same("run of kind " + kind, x.run(3, 100), 0);
        due.same("fired of kind " + kind, x.fired(1), 1);
        return x;
    }

    private static void put(TokenFloor x, int port, Put put) {
        if (put.sort == 1) {
            x.token(1, port, put.n);
        } else if (put.sort == 2) {
            x.way(2 + port, 0, 1, port);
            x.token(2 + port, 0, put.n);
        } else {
            x.way(10 + put.n, 0, 1, port);
            x.token(10 + put.n, 0, 1);
            x.token(10 + put.n, 1, 0);
        }
    }

    private static void givesNumber(int want, int kind, int number, Put... puts) {
        givesValue(1, want, -1, kind, number, puts);
    }

    private static void givesFault(int cause, int act, int kind, Put... puts) {
        givesValue(3, cause, act, kind, 0, puts);
    }

    private static void givesValue(int sort, int n, int act, int kind, int number, Put... puts) {
        TokenFloor x = done(kind, number, puts);
        String of = " of kind " + kind + " with " + java.util.Arrays.toString(puts);
        due.same("sort" + of, x.end(END, 0), sort);
        due.same("what" + of, x.end(END, 1), n);
        due.same("act" + of, x.end(END, 2), act);
    }

    private static void arithmetic() {
        int[] some = {0, 1, -1, 2, 7, -7, 46341, Integer.MAX_VALUE, Integer.MIN_VALUE};
        for (int a : some) {
            for (int b : some) {
                givesNumber(a + b, 2, 0, number(a), number(b));
                givesNumber(a - b, 3, 0, number(a), number(b));
                givesNumber(a * b, 4, 0, number(a), number(b));
                if (b != 0) {
                    givesNumber((int) ((long) a / b), 5, 0, number(a), number(b));
                    givesNumber((int) ((long) a % b), 6, 0, number(a), number(b));
                }
                givesNumber(a < b ? 1 : 0, 7, 0, number(a), number(b));
                givesNumber(a == b ? 1 : 0, 8, 0, number(a), number(b));
            }
        }
        givesNumber(-3, 5, 0, number(-7), number(2));
        givesNumber(-1, 6, 0, number(-7), number(2));
        for (int kind = 2; kind <= 7; kind++) {
            givesFault(4, 1, kind, row(3), number(1));
            givesFault(4, 1, kind, number(1), row(3));
            givesFault(4, 1, kind, row(1), row(1));
            givesFault(1, 12, kind, fault(2), number(1));
            givesFault(1, 12, kind, number(1), fault(2));
            givesFault(1, 12, kind, row(1), fault(2));
        }
    }

    private static void zeroDivisors() {
        givesFault(1, 1, 5, number(5), number(0));
        givesFault(1, 1, 6, number(5), number(0));
        givesFault(1, 1, 5, number(0), number(0));
        givesFault(4, 1, 5, row(2), number(0));
        givesFault(4, 1, 6, row(2), number(0));
    }

    private static void alike() {
        givesNumber(0, 8, 0, row(3), row(3));
        givesNumber(0, 8, 0, row(0), row(0));
        givesFault(4, 1, 8, row(0), number(0));
        givesFault(4, 1, 8, number(1), row(1));
        givesFault(1, 11, 8, fault(1), row(1));
        givesFault(1, 11, 8, row(1), fault(1));
        givesFault(1, 11, 8, fault(1), fault(2));
        TokenFloor x = new TokenFloor();
        x.act(17, 0, 0);
        x.act(8, 0, 0);
        x.act(21, 0, 0);
        x.way(0, 0, 1, 0);
        x.way(0, 0, 1, 1);
        x.way(1, 0, 2, 0);
        x.token(0, 0, 0);
        x.run(1, 9);
        due.same("a row and the same row", x.end(0, 1), 1);
    }

    private static void not() {
        givesNumber(1, 9, 0, number(0));
        givesNumber(0, 9, 0, number(1));
        givesNumber(0, 9, 0, number(Integer.MIN_VALUE));
        givesFault(4, 1, 9, row(0));
        givesFault(1, 10, 9, fault(0));
    }

    private static void copiesAndConstants() {
        for (int kind : new int[] {0, 15}) {
            givesNumber(-5, kind, 0, number(-5));
            givesValue(2, 4, -1, kind, 0, row(4));
            givesFault(1, 13, kind, fault(3));
        }
        givesNumber(77, 1, 77, number(1));
        givesNumber(-1, 1, -1, row(2));
        givesNumber(Integer.MIN_VALUE, 1, Integer.MIN_VALUE, fault(1));
    }

    private static void switches() {
        for (Put x : new Put[] {number(0), number(8), row(5), fault(4)}) {
            int n = x.sort == 3 ? 1 : x.n;
            int act = x.sort == 3 ? 14 : -1;
            givesValue(x.sort, n, act, 10, 0, x, number(1));
            givesValue(x.sort, n, act, 10, 0, x, number(-1));
            TokenFloor other = done(10, 0, x, number(0));
            due.same("side 0 gave nothing", other.end(END, 0), 0);
            due.same("nothing is lost", other.about(6), 0);
            for (Put y : new Put[] {row(1), fault(2)}) {
                TokenFloor lost = done(10, 0, x, y);
                due.same("no end", lost.end(END, 0), 0);
                due.same("lost", lost.about(6), 1);
            }
        }
        TokenFloor x = new TokenFloor();
        x.act(10, 0, 0);
        x.act(21, 0, 0);
        x.way(0, 1, 1, 0);
        x.token(0, 0, 6);
        x.token(0, 1, 0);
        x.run(1, 9);
        due.same("side 1", x.end(0, 1), 6);
    }

    private static void makes() {
        for (int cells : new int[] {0, 1, 200}) {
            givesValue(2, cells, -1, 17, 0, number(cells));
        }
        for (int cells : new int[] {-1, 201, Integer.MIN_VALUE, Integer.MAX_VALUE}) {
            givesFault(3, 1, 17, number(cells));
        }
        givesFault(4, 1, 17, row(1));
        givesFault(1, 10, 17, fault(0));
    }

    private static void sizes() {
        givesNumber(0, 20, 0, row(0));
        givesNumber(200, 20, 0, row(200));
        givesFault(4, 1, 20, number(3));
        givesFault(1, 19, 20, fault(9));
    }

    private static void readsAndWrites() {
        givesFault(4, 1, 18, number(0), number(0));
        givesFault(4, 1, 18, row(2), row(2));
        givesFault(4, 1, 18, number(0), row(2));
        for (int y : new int[] {-1, 2, Integer.MIN_VALUE, Integer.MAX_VALUE}) {
            givesFault(2, 1, 18, row(2), number(y));
            givesFault(2, 1, 19, row(2), number(y), number(9));
            givesFault(4, 1, 18, number(7), number(y));
        }
        givesNumber(9, 19, 0, row(2), number(1), number(9));
        givesValue(2, 6, -1, 19, 0, row(2), number(1), row(6));
        givesFault(1, 15, 19, row(2), number(1), fault(5));
        givesFault(4, 1, 19, number(0), number(0), number(9));
        givesFault(4, 1, 19, row(2), row(2), number(9));
        givesFault(4, 1, 19, number(0), number(0), fault(5));
        givesFault(2, 1, 19, row(2), number(2), fault(5));
        givesFault(2, 1, 19, row(0), number(0), number(5));
        TokenFloor waits = done(18, 0, row(2), number(1));
        due.same("a reader waits", waits.about(5), 1);
        due.same("it gave nothing", waits.end(END, 0), 0);
    }

    private static void faultsFirstByPorts() {
        for (int kind : new int[] {2, 3, 4, 5, 6, 7, 8, 18}) {
            givesFault(1, 13, kind, fault(3), fault(2));
            givesFault(1, 12, kind, fault(2), fault(3));
        }
        givesFault(1, 13, 19, fault(3), fault(2), fault(1));
        givesFault(1, 12, 19, row(1), fault(2), fault(1));
        givesFault(1, 12, 19, number(1), fault(2), number(1));
        givesFault(1, 12, 18, number(1), fault(2));
    }

    private static void ends() {
        TokenFloor x = new TokenFloor();
        for (int e = 0; e < 10; e++) {
            x.act(21, e, 0);
        }
        due.same("no run yet", x.end(0, 0), -1);
        for (int e = 0; e < 10; e += 2) {
            x.token(e, 0, 100 + e);
        }
        x.run(1, 99);
        for (int e = 0; e < 10; e++) {
            boolean has = e % 2 == 0;
            due.same("sort of end " + e, x.end(e, 0), has ? 1 : 0);
            due.same("number of end " + e, x.end(e, 1), has ? 100 + e : -1);
            due.same("fault of end " + e, x.end(e, 2), -1);
        }
        for (int wrong : new int[] {-1, 10, Integer.MIN_VALUE, Integer.MAX_VALUE}) {
            due.same("no end " + wrong, x.end(wrong, 0), -1);
        }
        for (int wrong : new int[] {-1, 3, Integer.MIN_VALUE, Integer.MAX_VALUE}) {
            due.same("no what " + wrong, x.end(0, wrong), -1);
        }
    }
}
