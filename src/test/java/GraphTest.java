/** Promises 1 to 5 and 12: a new object, act, way, token, clear, told. */
public final class GraphTest {
    private static final int[] PORTS = {
        1, 1, 2, 2, 2, 2, 2, 2, 2, 1, 2, 1, 1, 1, 2, 1, 1, 1, 2, 3, 1, 1
    };
    private static final int[] EDGES = {
        Integer.MIN_VALUE, -1, 0, 1, 2, 3, 4, 79, 80, Integer.MAX_VALUE
    };

    private static final Due due = new Due("GraphTest");

    public static void main(String[] args) {
        newObject();
        kindsAndPorts();
        numbers();
        portsOfCall();
        eightyActs();
        sidesAndPorts();
        threeHundredWays();
        tokens();
        clearing();
        clearForgetsTheRun();
        toldOfNone();
        due.close();
    }

    private static void newObject() {
        TokenFloor x = new TokenFloor();
        due.same("told of a new one", x.told(0, 0), -1);
        due.same("fired of a new one", x.fired(0), -1);
        due.same("about of a new one", x.about(8), -1);
        due.same("run of a new one", x.run(1, 10), 0);
        due.same("its colours", x.about(8), 1);
        due.same("its steps", x.about(1), 0);
        due.same("the most in one", x.about(3), 0);
        due.same("two objects share nothing", new TokenFloor().act(0, 0, 0), 0);
    }

    private static void kindsAndPorts() {
        TokenFloor x = new TokenFloor();
        for (int kind = 0; kind <= 21; kind++) {
            due.same("act of kind " + kind, x.act(kind, 2, 2), kind);
            due.same("kind told", x.told(kind, 0), kind);
            due.same("number told", x.told(kind, 1), 2);
            due.same("ports told of kind " + kind, x.told(kind, 2), PORTS[kind]);
            due.same("ways of side 0", x.told(kind, 3), 0);
            due.same("ways of side 1", x.told(kind, 4), 0);
            due.same("tokens", x.told(kind, 5), 0);
        }
        for (int kind : new int[] {-1, 22, Integer.MIN_VALUE, Integer.MAX_VALUE}) {
            due.same("no kind " + kind, x.act(kind, 0, 1), -1);
        }
        due.same("the refused ones left nothing", x.act(0, 0, 0), 22);
    }

    private static void numbers() {
        int[] asked = {Integer.MIN_VALUE, -10, -1, 0, 2, 3, 9, 10, 12, 13, 92, 93, 99, 100, 102,
            Integer.MAX_VALUE};
        for (int kind = 0; kind <= 21; kind++) {
            for (int number : asked) {
                TokenFloor x = new TokenFloor();
                boolean allowed = isAllowed(kind, number);
                due.same("act(" + kind + ", " + number + ")", x.act(kind, number, 1), allowed ? 0 : -1);
                due.same("its number told", x.told(0, 1), allowed ? number : -1);
            }
        }
    }

    private static boolean isAllowed(int kind, int number) {
        if (kind >= 11 && kind <= 14 || kind == 21) {
            return number >= 0 && number <= 9;
        }
        return kind != 15 || number >= 0 && number < 100 && number % 10 <= 2;
    }

    private static void portsOfCall() {
        for (int ports : EDGES) {
            TokenFloor x = new TokenFloor();
            boolean allowed = ports >= 1 && ports <= 3;
            due.same("call with " + ports, x.act(14, 0, ports), allowed ? 0 : -1);
            due.same("its ports told", x.told(0, 2), allowed ? ports : -1);
            due.same("a copy asks for no ports", x.act(0, 0, ports), allowed ? 1 : 0);
        }
    }

    private static void eightyActs() {
        TokenFloor x = new TokenFloor();
        for (int i = 0; i < 80; i++) {
            due.same("act " + i, x.act(0, i, 0), i);
        }
        due.same("the 81st", x.act(0, 0, 0), -1);
        due.same("the last is there", x.told(79, 1), 79);
        due.same("no act 80", x.told(80, 0), -1);
        due.same("a way to the last", x.way(0, 0, 79, 0), 0);
        due.same("no way to act 80", x.way(0, 0, 80, 0), -1);
    }

    private static void sidesAndPorts() {
        for (int kind = 0; kind <= 21; kind++) {
            TokenFloor x = new TokenFloor();
            x.act(kind, 0, 2);
            x.act(0, 0, 0);
            due.same("side 0 of kind " + kind, x.way(0, 0, 1, 0), 0);
            due.same("side 1 of kind " + kind, x.way(0, 1, 1, 0), kind == 10 ? 1 : -1);
            due.same("side 2 of kind " + kind, x.way(0, 2, 1, 0), -1);
            due.same("side -1 of kind " + kind, x.way(0, -1, 1, 0), -1);
            due.same("ways of side 0", x.told(0, 3), 1);
            due.same("ways of side 1", x.told(0, 4), kind == 10 ? 1 : 0);
            int last = PORTS[kind] - 1;
            due.same("way to the last port", x.way(1, 0, 0, last), kind == 10 ? 2 : 1);
            due.same("way past it", x.way(1, 0, 0, last + 1), -1);
            due.same("way to port -1", x.way(1, 0, 0, -1), -1);
            due.same("token at the last port", x.token(0, last, 5), 1);
            due.same("token past it", x.token(0, last + 1, 5), -1);
            due.same("token at port -1", x.token(0, -1, 5), -1);
        }
        TokenFloor x = new TokenFloor();
        x.act(0, 0, 0);
        for (int act : EDGES) {
            due.same("way from act " + act, x.way(act, 0, 0, 0) >= 0 ? 1 : 0, act == 0 ? 1 : 0);
            due.same("way to act " + act, x.way(0, 0, act, 0) >= 0 ? 1 : 0, act == 0 ? 1 : 0);
            due.same("token at act " + act, x.token(act, 0, 1), act == 0 ? 1 : -1);
        }
    }

    private static void threeHundredWays() {
        TokenFloor x = new TokenFloor();
        x.act(10, 0, 0);
        x.act(2, 0, 0);
        for (int i = 0; i < 300; i++) {
            due.same("way " + i, x.way(0, i % 3 == 0 ? 1 : 0, 1, i % 2), i);
        }
        due.same("the 301st", x.way(0, 0, 1, 0), -1);
        due.same("ways of side 0", x.told(0, 3), 200);
        due.same("ways of side 1", x.told(0, 4), 100);
        due.same("ways of the other", x.told(1, 3), 0);
        x.clear(1);
        due.same("after clear(1)", x.told(0, 3), 0);
        due.same("ways begin anew", x.way(0, 1, 1, 1), 0);
        due.same("one of side 1", x.told(0, 4), 1);
    }

    private static void tokens() {
        TokenFloor x = new TokenFloor();
        x.act(2, 0, 0);
        x.act(0, 0, 0);
        for (int i = 1; i <= 40; i++) {
            due.same("token " + i, x.token(i % 4 == 0 ? 1 : 0, 0, i), i);
        }
        due.same("the 41st", x.token(0, 1, 1), -1);
        due.same("tokens of 0", x.told(0, 5), 30);
        due.same("tokens of 1", x.told(1, 5), 10);
        x.clear(0);
        due.same("tokens begin anew", x.token(0, 1, 1), 1);
    }

    private static TokenFloor small() {
        TokenFloor x = new TokenFloor();
        x.act(15, 0, 0);
        x.act(21, 0, 0);
        x.way(0, 0, 1, 0);
        x.token(0, 0, 7);
        return x;
    }

    private static void clearing() {
        for (int what = 0; what <= 2; what++) {
            TokenFloor x = small();
            due.holds("clear(" + what + ")", x.clear(what));
            due.same("acts stay", x.told(0, 0), what < 2 ? 15 : -1);
            due.same("ways stay", x.told(0, 3), what < 1 ? 1 : what < 2 ? 0 : -1);
            due.same("tokens go", x.told(0, 5), what < 2 ? 0 : -1);
            due.same("the next act", x.act(0, 0, 0), what < 2 ? 2 : 0);
            due.same("the next way", x.way(0, 0, 0, 0), what < 1 ? 1 : 0);
            due.same("the next token", x.token(0, 0, 1), 1);
        }
        // What a cleared parameter was must not be called any more.
        TokenFloor x = small();
        x.clear(2);
        x.act(14, 0, 1);
        x.act(21, 0, 0);
        x.token(0, 0, 1);
        due.same("run after clear(2)", x.run(1, 9), 0);
        due.same("steps", x.about(1), 1);
        due.same("fired", x.fired(0), 1);
    }

    private static void clearForgetsTheRun() {
        for (int what : new int[] {-1, 3, 0, 1, 2, Integer.MAX_VALUE, Integer.MIN_VALUE}) {
            TokenFloor x = small();
            x.run(1, 9);
            boolean right = what >= 0 && what <= 2;
            due.same("clear(" + what + ")", x.clear(what) ? 1 : 0, right ? 1 : 0);
            due.same("about", x.about(1), right ? -1 : 2);
            due.same("end", x.end(0, 1), right ? -1 : 7);
            due.same("fired", x.fired(0), right ? -1 : 1);
            due.same("tokens", x.told(0, 5), right ? what < 2 ? 0 : -1 : 1);
        }
    }

    private static void toldOfNone() {
        TokenFloor x = small();
        for (int act : EDGES) {
            boolean there = act == 0 || act == 1;
            due.same("told(" + act + ", 2)", x.told(act, 2), there ? 1 : -1);
        }
        for (int what : new int[] {-1, 6, 7, Integer.MIN_VALUE, Integer.MAX_VALUE}) {
            due.same("told(0, " + what + ")", x.told(0, what), -1);
        }
    }
}
