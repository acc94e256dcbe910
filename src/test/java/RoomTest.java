import java.lang.management.ManagementFactory;

/** The room: what a new object takes, and that calls on it make next to nothing. */
public final class RoomTest {
    private static final Due due = new Due("RoomTest");

    public static void main(String[] args) {
        com.sun.management.ThreadMXBean bean =
            (com.sun.management.ThreadMXBean) ManagementFactory.getThreadMXBean();
        long thread = Thread.currentThread().getId();
        dearest(new TokenFloor());
        long before = bean.getThreadAllocatedBytes(thread);
        TokenFloor x = new TokenFloor();
        long made = bean.getThreadAllocatedBytes(thread) - before;
        due.holds("a new object takes " + made + " bytes", made < 400_000);
        before = bean.getThreadAllocatedBytes(thread);
        // Five times is just below the 512 calls that an object is used for.
        for (int i = 0; i < 5; i++) {
            dearest(x);
        }
        long more = bean.getThreadAllocatedBytes(thread) - before;
        due.holds("five full graphs and runs make " + more + " bytes more", more < 20_000);
        due.close();
    }

    /** Loops that fill the pairs, with rows, readers and calls, by each kind of run. */
    private static void dearest(TokenFloor x) {
        x.clear(2);
        int[] kinds = {11, 0, 0, 0, 17, 18, 20, 12, 14, 15, 16};
        for (int kind : kinds) {
            x.act(kind, 0, 1);
        }
        for (int i = 0; i < 7; i++) {
            x.way(i < 4 ? i : 3, 0, i + 1, 0);
        }
        x.way(3, 0, 5, 1);
        x.way(4, 0, 5, 0);
        x.way(7, 0, 1, 0);
        x.way(3, 0, 8, 0);
        x.way(9, 0, 10, 0);
        x.token(0, 0, 3);
        x.run(1, 4000);
        x.ticks(4000);
        x.beside(1, 2, 4000);
        for (int i = 0; i < 11; i++) {
            x.about(i);
            x.told(i, 3);
            x.cell(i, 0, 0);
            x.end(i, 0);
            x.fired(i);
        }
    }
}
