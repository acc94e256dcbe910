/** Promise 7: ticks. */
public final class TicksTest {
    private static final Due due = new Due("TicksTest");

    public static void main(String[] args) {
        wrongFuel();
        tree();
        spentWithinATick();
        newOnesWait();
        clashWithinATick();
        due.close();
    }

    private static void wrongFuel() {
        TokenFloor x = new TokenFloor();
        x.act(0, 0, 0);
        x.token(0, 0, 1);
        for (int fuel : new int[] {-1, 4001, Integer.MIN_VALUE, Integer.MAX_VALUE}) {
            due.same("ticks(" + fuel + ")", x.ticks(fuel), -1);
            due.same("no run", x.about(0), -1);
        }
        due.same("ticks(4000)", x.ticks(4000), 0);
        due.same("ticks(0)", x.ticks(0), 3);
        due.same("the most of none", x.about(3), 0);
        x.clear(0);
        due.same("nothing to do", x.ticks(0), 0);
        due.same("no tick", x.about(2), 0);
    }

    /** Copy 0 gives to 1, 2, 3; each of those to one more. */
    private static TokenFloor treeOfSeven() {
        TokenFloor x = new TokenFloor();
        for (int i = 0; i < 7; i++) {
            x.act(0, 0, 0);
        }
        for (int i = 1; i <= 3; i++) {
            x.way(0, 0, i, 0);
            x.way(i, 0, i + 3, 0);
        }
        x.token(0, 0, 1);
        return x;
    }

    private static void tree() {
        TokenFloor x = treeOfSeven();
        due.same("ticks", x.ticks(4000), 0);
        due.same("ticks told", x.about(2), 3);
        due.same("steps", x.about(1), 7);
        due.same("the most", x.about(3), 3);
        x.run(5, 4000);
        due.same("a run has no ticks", x.about(2), 0);
        due.same("and goes off one by one", x.about(3), 1);
    }

    private static void spentWithinATick() {
        TokenFloor x = treeOfSeven();
        int[] ticks = {0, 1, 2, 2, 2, 3, 3, 3, 3};
        int[] most = {0, 1, 1, 2, 3, 3, 3, 3, 3};
        int[] ready = {1, 3, 3, 3, 3, 2, 1, 0, 0};
        for (int fuel = 0; fuel <= 8; fuel++) {
            due.same("ticks(" + fuel + ")", x.ticks(fuel), fuel < 7 ? 3 : 0);
            due.same("how", x.about(0), fuel < 7 ? 3 : 0);
            due.same("steps with fuel " + fuel, x.about(1), Math.min(fuel, 7));
            due.same("ticks with fuel " + fuel, x.about(2), ticks[fuel]);
            due.same("the most with fuel " + fuel, x.about(3), most[fuel]);
            due.same("ready with fuel " + fuel, x.about(10), ready[fuel]);
        }
    }

    private static void newOnesWait() {
        TokenFloor x = new TokenFloor();
        for (int i = 0; i < 3; i++) {
            x.act(0, 0, 0);
        }
        x.way(0, 0, 2, 0);
        x.token(0, 0, 1);
        x.token(1, 0, 1);
        x.ticks(2);
        due.same("the old one goes ahead of the new one", x.fired(1), 1);
        due.same("the new one waits", x.fired(2), 0);
        due.same("one tick", x.about(2), 1);
        due.same("done", x.ticks(3), 0);
        due.same("two ticks", x.about(2), 2);
        due.same("the most", x.about(3), 2);
    }

    private static void clashWithinATick() {
        TokenFloor x = new TokenFloor();
        for (int i = 0; i < 4; i++) {
            x.act(0, 0, 0);
        }
        x.way(0, 0, 3, 0);
        x.way(1, 0, 3, 0);
        x.token(0, 0, 1);
        x.token(1, 0, 1);
        x.token(2, 0, 1);
        due.same("clash", x.ticks(99), 1);
        due.same("the tick had steps", x.about(2), 1);
        due.same("steps", x.about(1), 2);
        due.same("the most", x.about(3), 2);
        due.same("ready still", x.about(10), 2);
        due.same("the act", x.about(9), 3);
        x.token(2, 0, 1);
        due.same("clash ahead of all", x.ticks(99), 1);
        due.same("no tick", x.about(2), 0);
    }
}
