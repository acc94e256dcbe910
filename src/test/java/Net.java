/** A graph for a test, built by short calls; a call that is refused ends the test. */
final class Net {
    static final int COPY = 0;
    static final int CONSTANT = 1;
    static final int PLUS = 2;
    static final int MINUS = 3;
    static final int TIMES = 4;
    static final int DIVIDE = 5;
    static final int REST = 6;
    static final int LESS = 7;
    static final int ALIKE = 8;
    static final int NOT = 9;
    static final int SWITCH = 10;
    static final int ENTER = 11;
    static final int NEXT = 12;
    static final int LEAVE = 13;
    static final int CALL = 14;
    static final int PARAMETER = 15;
    static final int RETURN = 16;
    static final int MAKE = 17;
    static final int READ = 18;
    static final int WRITE = 19;
    static final int SIZE = 20;
    static final int END = 21;

    static final int DONE = 0;
    static final int CLASH = 1;
    static final int FULL = 2;
    static final int SPENT = 3;

    static final int LEAST = Integer.MIN_VALUE;
    static final int MOST = Integer.MAX_VALUE;

    /** The ports of each kind; those of CALL are told when it is made. */
    private static final int[] PORTS = {
        1, 1, 2, 2, 2, 2, 2, 2, 2, 1, 2, 1, 1, 1, -1, 1, 1, 1, 2, 3, 1, 1
    };

    final TokenFloor x = new TokenFloor();

    static int portsOf(int kind, int asked) {
        return kind == CALL ? asked : PORTS[kind];
    }

    int act(int kind) {
        return act(kind, 0);
    }

    int act(int kind, int number) {
        return taken(x.act(kind, number, 1));
    }

    int call(int function, int arguments) {
        return taken(x.act(CALL, function, arguments));
    }

    void way(int from, int to) {
        way(from, 0, to, 0);
    }

    void way(int from, int side, int to, int port) {
        taken(x.way(from, side, to, port));
    }

    void token(int act, int port, int value) {
        taken(x.token(act, port, value));
    }

    /** An act of one port with a token at it. */
    int begin(int kind, int number, int value) {
        int act = act(kind, number);
        token(act, 0, value);
        return act;
    }

    /** A chain of acts, each of one port, from an act that is there; the last one's number. */
    int chain(int from, int[]... kindsAndNumbers) {
        int last = from;
        for (int[] next : kindsAndNumbers) {
            int act = act(next[0], next[1]);
            way(last, act);
            last = act;
        }
        return last;
    }

    /** A MAKE with a token: a row of so many cells. */
    int row(int cells) {
        return begin(MAKE, 0, cells);
    }

    /** A division by 0: a fault of cause 1. */
    int fault() {
        int act = act(DIVIDE);
        token(act, 0, 1);
        token(act, 1, 0);
        return act;
    }

    /** An END of that number to which side 0 of an act goes. */
    int end(int from, int number) {
        int end = act(END, number);
        way(from, end);
        return end;
    }

    private static int taken(int answer) {
        if (answer < 0) {
            throw new IllegalStateException("a call that builds the test's graph was refused");
        }
        return answer;
    }
}
