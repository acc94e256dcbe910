import java.lang.reflect.Field;
import java.lang.reflect.Method;

/**
 * Promise 13: which figure beside() tells when two DONE runs differ. By the document's own rules
 * two seeds never make such runs, so no calls can show it: this test alone looks inside, and holds
 * the figures of a run of one graph against those of a run of another.
 */
public final class FiguresTest {
    public static void main(String[] args) {
        Sentences all = new Sentences("FiguresTest");
        all.test("13 end alike: NONE", FiguresTest::alike);
        all.test("13 1 STEPS", FiguresTest::steps);
        all.test("13 2 TOKENS left", FiguresTest::left);
        all.test("13 3 readers", FiguresTest::readers);
        all.test("13 4 LOST", FiguresTest::lost);
        all.test("13 5 STRAYS", FiguresTest::strays);
        all.test("13 10 and more: an end (of another NUMBER)", FiguresTest::endsOfNumbers);
        all.test("13 10 and more: an end (none beside one)", FiguresTest::endsThere);
        all.test("13 10 and more: an end (of another sort)", FiguresTest::endsOfSorts);
        all.test("13 10 and more: an end (of another FAULT)", FiguresTest::endsOfFaults);
        all.test("13 10 and more: an end (of a ROW)", FiguresTest::endsOfRows);
        all.test("13 20 and more: how often an ACT went off", FiguresTest::fired);
        all.test("13 the first that differs", FiguresTest::firstOfMany);
        all.close();
    }

    /** What beside() would answer if these graphs' runs were its two. */
    private static int between(Due due, Net a, Net b) {
        due.same("the first ends alike with itself", a.x.beside(1, 2, 4000), -1);
        due.same("and is done", a.x.about(0), Net.DONE);
        due.same("the second ends alike with itself", b.x.beside(1, 2, 4000), -1);
        due.same("and is done", b.x.about(0), Net.DONE);
        try {
            Field figures = TokenFloor.class.getDeclaredField("figuresA");
            figures.setAccessible(true);
            long[] of = (long[]) figures.get(a.x);
            System.arraycopy(of, 0, (long[]) figures.get(b.x), 0, of.length);
            Method first = TokenFloor.class.getDeclaredMethod("firstDifference");
            first.setAccessible(true);
            return (int) first.invoke(b.x);
        } catch (ReflectiveOperationException e) {
            throw new IllegalStateException(e);
        }
    }

    private static void differ(Due due, String what, Net a, Net b, int want) {
        due.same(what, between(due, a, b), want);
        due.same(what + ", the other way round", between(due, b, a), want);
    }

    private static Net one(int kind) {
        Net net = new Net();
        net.begin(kind, 0, 1);
        return net;
    }

    private static void alike(Due due) {
        differ(due, "one graph", one(Net.COPY), one(Net.COPY), -1);
        differ(due, "no graph", new Net(), new Net(), -1);
    }

    private static void steps(Due due) {
        differ(due, "no step beside one", new Net(), one(Net.COPY), 1);
        Net longer = one(Net.COPY);
        longer.chain(0, new int[] {Net.COPY, 0});
        differ(due, "one step beside two", one(Net.COPY), longer, 1);
    }

    private static void left(Due due) {
        Net half = one(Net.COPY);
        half.token(half.act(Net.PLUS), 1, 1);
        differ(due, "none left beside one", one(Net.COPY), half, 2);
    }

    private static Net atRow(int kind) {
        Net net = new Net();
        int row = net.row(1);
        int act = net.act(kind);
        net.way(row, act);
        net.token(act, 1, 0);
        return net;
    }

    private static void readers(Due due) {
        differ(due, "a reader beside none", atRow(Net.READ), atRow(Net.ALIKE), 3);
    }

    private static void lost(Due due) {
        differ(due, "one lost beside none", one(Net.RETURN), one(Net.COPY), 4);
    }

    private static Net inside(int kind) {
        Net net = one(Net.ENTER);
        net.chain(0, new int[] {kind, 0});
        return net;
    }

    private static void strays(Due due) {
        differ(due, "a stray beside none", inside(Net.END), inside(Net.COPY), 5);
    }

    private static Net endAt(int e, int value) {
        Net net = new Net();
        net.begin(Net.END, e, value);
        return net;
    }

    private static void endsOfNumbers(Due due) {
        for (int e = 0; e <= 9; e++) {
            differ(due, "end " + e, endAt(e, 1), endAt(e, 2), 10 + e);
            differ(due, "end " + e + " of a sign", endAt(e, 1), endAt(e, -1), 10 + e);
            differ(due, "end " + e + " of -1", endAt(e, -1), endAt(e, 0), 10 + e);
            differ(due, "end " + e + " alike", endAt(e, -1), endAt(e, -1), -1);
        }
    }

    private static void endsThere(Due due) {
        for (int e = 0; e < 9; e++) {
            differ(due, "end " + e + " beside the next", endAt(e, 0), endAt(e + 1, 0), 10 + e);
        }
        differ(due, "end 9 beside a COPY", endAt(9, 0), one(Net.COPY), 19);
    }

    private static Net ended(int kind, int number, int x) {
        Net net = new Net();
        net.end(net.begin(kind, number, x), 6);
        return net;
    }

    private static void endsOfSorts(Due due) {
        differ(due, "a row beside its size", ended(Net.MAKE, 0, 2), ended(Net.COPY, 0, 2), 16);
        differ(due, "a fault beside its cause", ended(Net.MAKE, 0, -1), ended(Net.COPY, 0, 3), 16);
        differ(due, "a fault beside a row", ended(Net.MAKE, 0, -1), ended(Net.MAKE, 0, 3), 16);
    }

    private static void endsOfFaults(Due due) {
        differ(due, "another cause", ended(Net.MAKE, 0, -1), ended(Net.NEXT, 0, 1), 16);
        differ(due, "the same", ended(Net.SIZE, 0, 1), ended(Net.SIZE, 0, 2), -1);
        differ(due, "another act", twoSizes(true), twoSizes(false), 16);
    }

    /** Both acts give faults of cause 4; the end's is the first one's, or the second one's. */
    private static Net twoSizes(boolean first) {
        Net net = new Net();
        net.begin(Net.SIZE, 0, 1);
        net.begin(Net.SIZE, 0, 1);
        net.end(first ? 0 : 1, 6);
        return net;
    }

    private static void endsOfRows(Due due) {
        differ(due, "another size", ended(Net.MAKE, 0, 2), ended(Net.MAKE, 0, 3), 16);
        // Whichever row is made first, the end's one is of the same cells.
        differ(due, "the same size", twoRows(true), twoRows(false), -1);
    }

    private static Net twoRows(boolean endFirst) {
        Net net = new Net();
        int a = net.act(Net.MAKE);
        int b = net.act(Net.MAKE);
        net.token(endFirst ? a : b, 0, 2);
        net.token(endFirst ? b : a, 0, 2);
        net.end(a, 6);
        return net;
    }

    private static Net copyAt(int act, int acts) {
        Net net = new Net();
        for (int i = 0; i < acts; i++) {
            net.act(Net.COPY);
        }
        net.token(act, 0, 1);
        return net;
    }

    private static void fired(Due due) {
        for (int act = 0; act < 79; act++) {
            differ(due, "act " + act, copyAt(act, 80), copyAt(79, 80), 20 + act);
        }
        differ(due, "the same act", copyAt(79, 80), copyAt(79, 80), -1);
        differ(due, "the same act of fewer", copyAt(1, 80), copyAt(1, 2), -1);
    }

    private static void firstOfMany(Due due) {
        Net all = new Net();
        all.token(all.act(Net.PLUS), 1, 1);
        all.begin(Net.RETURN, 0, 1);
        all.begin(Net.END, 2, 1);
        differ(due, "steps, though others differ", all, new Net(), 1);
        Net three = new Net();
        for (int i = 0; i < 2; i++) {
            three.begin(Net.COPY, 0, 1);
        }
        differ(due, "tokens left ahead of LOST and the end", all, three, 2);
        three.token(three.act(Net.PLUS), 0, 1);
        differ(due, "LOST ahead of the end", all, three, 4);
        Net ends = endAt(8, 1);
        ends.begin(Net.END, 3, 1);
        Net others = endAt(8, 2);
        others.begin(Net.END, 3, 2);
        differ(due, "the first end by its number", ends, others, 13);
    }
}
