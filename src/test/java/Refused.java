import java.util.ArrayList;
import java.util.List;

/**
 * Holds a refused call to its word that it did nothing: an object that got it answers all later
 * calls as one that did not. No object gets more than the 512 calls that the document speaks of.
 */
final class Refused {
    interface Call {
        int on(TokenFloor x);
    }

    private interface State {
        TokenFloor make();
    }

    private Refused() {
    }

    static void check(Due due, String what, int answer, Call call) {
        State[] states = {TokenFloor::new, Refused::built, Refused::run, Refused::ticked};
        String[] names = {"a new object", "a graph", "a graph that ran", "a graph that had ticks"};
        for (int i = 0; i < states.length; i++) {
            TokenFloor got = states[i].make();
            TokenFloor spared = states[i].make();
            String where = what + " on " + names[i];
            due.same(where, call.on(got), answer);
            due.holds(where + " changed nothing", all(got).equals(all(spared)));
            due.holds(where + " leaves what comes", goOn(got).equals(goOn(spared)));
            due.holds(where + " leaves it all", all(got).equals(all(spared)));
        }
    }

    /** A call with its way back, a switch, a row, ends: a little of all that calls can change. */
    static TokenFloor built() {
        Net net = new Net();
        int call = net.call(0, 1);
        int parameter = net.act(Net.PARAMETER, 0);
        net.chain(parameter, new int[] {Net.RETURN, 0});
        net.token(call, 0, 42);
        net.end(call, 0);
        int fork = net.act(Net.SWITCH);
        net.token(fork, 0, 5);
        net.token(fork, 1, 0);
        net.way(fork, 1, net.act(Net.END, 9), 0);
        net.row(2);
        net.act(Net.PLUS);
        return net.x;
    }

    static TokenFloor run() {
        TokenFloor x = built();
        x.run(5, 100);
        return x;
    }

    private static TokenFloor ticked() {
        TokenFloor x = built();
        x.ticks(4);
        return x;
    }

    /** All that a small object answers of its graph and of its latest run. */
    private static List<Integer> all(TokenFloor x) {
        List<Integer> answers = new ArrayList<>();
        int acts = 0;
        while (acts < 12 && x.told(acts, 0) >= 0) {
            for (int what = 1; what <= 5; what++) {
                answers.add(x.told(acts, what));
            }
            answers.add(x.fired(acts));
            acts++;
        }
        for (int what = 0; what <= 10; what++) {
            answers.add(x.about(what));
        }
        for (int e = 0; e < 10; e++) {
            answers.add(x.end(e, 0));
        }
        for (int e = 0; e < 10; e += 9) {
            answers.add(x.end(e, 1));
            answers.add(x.end(e, 2));
        }
        for (int act = 0; act < acts; act++) {
            answers.add(x.cell(act, 1, 0));
        }
        return answers;
    }

    /** One more of everything, and a run. */
    private static List<Integer> goOn(TokenFloor x) {
        List<Integer> answers = new ArrayList<>();
        int end = x.act(Net.END, 7, 0);
        int copy = x.act(Net.COPY, 0, 0);
        answers.add(end);
        answers.add(copy);
        answers.add(x.way(copy, 0, end, 0));
        answers.add(x.token(copy, 0, 6));
        answers.add(x.run(8, 100));
        answers.add(x.end(7, 1));
        answers.add(x.beside(1, 2, 3));
        return answers;
    }
}
