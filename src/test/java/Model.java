import java.util.ArrayList;
import java.util.HashMap;
import java.util.HashSet;
import java.util.LinkedHashMap;
import java.util.List;
import java.util.Map;
import java.util.Set;

/**
 * The document once more, written with maps and texts and without a thought for room, so that
 * ModelTest can hold the program against it.
 */
final class Model {
    private record Act(int kind, int number, int ports) { }

    private record Way(int from, int side, int to, int port) { }

    private record Token(int act, int port, int value) { }

    private record Fault(int cause, int act) { }

    /** Loop or call ("loop", "call"), of which one, which turn, in which colour. */
    private record Colour(String sort, int which, int turn, Colour in) { }

    private record Pair(int act, Colour colour) { }

    private record Place(Row row, int i) { }

    private static final class Row {
        final Object[] cells;

        Row(int n) {
            cells = new Object[n];
        }
    }

    /** Ends a run from within a step. */
    private static final class Stop extends RuntimeException {
        private static final long serialVersionUID = 1;
        final int how;
        final int act;

        Stop(int how, int act) {
            super(null, null, false, false);
            this.how = how;
            this.act = act;
        }
    }

    private static final Colour ZERO = new Colour("zero", 0, 0, null);
    private static final int[] PORTS = {
        1, 1, 2, 2, 2, 2, 2, 2, 2, 1, 2, 1, 1, 1, -1, 1, 1, 1, 2, 3, 1, 1
    };

    private final List<Act> acts = new ArrayList<>();
    private final List<Way> ways = new ArrayList<>();
    private final List<Token> tokens = new ArrayList<>();

    private boolean hasRun;
    private int how;
    private int clash;
    private int steps;
    private int ticks;
    private int most;
    private int lost;
    private int strays;
    private int cells;
    private int rows;
    private final Set<Colour> colours = new HashSet<>();
    private final Map<Pair, Object[]> came = new HashMap<>();
    private final Set<Pair> gone = new HashSet<>();
    private final List<Pair> ready = new ArrayList<>();
    private final Map<Place, List<Pair>> readers = new LinkedHashMap<>();
    private final Map<Integer, Object> ends = new HashMap<>();
    private final Map<Integer, Row> madeInZero = new HashMap<>();
    private int[] fired = new int[80];

    int act(int kind, int number, int ports) {
        if (kind < 0 || kind > 21 || acts.size() == 80) {
            return -1;
        }
        if ((kind >= 11 && kind <= 14 || kind == 21) && (number < 0 || number > 9)) {
            return -1;
        }
        if (kind == 15 && (number < 0 || number > 99 || number % 10 > 2)) {
            return -1;
        }
        if (kind == 14 && (ports < 1 || ports > 3)) {
            return -1;
        }
        acts.add(new Act(kind, number, kind == 14 ? ports : PORTS[kind]));
        return acts.size() - 1;
    }

    private boolean isAct(int a) {
        return a >= 0 && a < acts.size();
    }

    private boolean isPort(int a, int p) {
        return isAct(a) && p >= 0 && p < acts.get(a).ports;
    }

    int way(int from, int side, int to, int port) {
        if (!isAct(from) || !isPort(to, port) || ways.size() == 300) {
            return -1;
        }
        if (side != 0 && !(side == 1 && acts.get(from).kind == 10)) {
            return -1;
        }
        ways.add(new Way(from, side, to, port));
        return ways.size() - 1;
    }

    int token(int act, int port, int value) {
        if (!isPort(act, port) || tokens.size() == 40) {
            return -1;
        }
        tokens.add(new Token(act, port, value));
        return tokens.size();
    }

    boolean clear(int what) {
        if (what < 0 || what > 2) {
            return false;
        }
        tokens.clear();
        if (what > 0) {
            ways.clear();
        }
        if (what > 1) {
            acts.clear();
        }
        hasRun = false;
        return true;
    }

    int run(int seed, int fuel) {
        if (fuel < 0 || fuel > 4000) {
            return -1;
        }
        reset();
        try {
            putTokens();
            int s = seed;
            while (!ready.isEmpty()) {
                if (steps == fuel) {
                    throw new Stop(3, -1);
                }
                s = s * 1103515245 + 12345;
                most = 1;
                goOff(ready.remove((s >>> 16) % ready.size()));
            }
        } catch (Stop stop) {
            how = stop.how;
            clash = stop.act;
        }
        return how;
    }

    int ticks(int fuel) {
        if (fuel < 0 || fuel > 4000) {
            return -1;
        }
        reset();
        try {
            putTokens();
            while (!ready.isEmpty()) {
                int all = ready.size();
                for (int i = 0; i < all; i++) {
                    if (steps == fuel) {
                        throw new Stop(3, -1);
                    }
                    if (i == 0) {
                        ticks++;
                    }
                    most = Math.max(most, i + 1);
                    goOff(ready.remove(0));
                }
            }
        } catch (Stop stop) {
            how = stop.how;
            clash = stop.act;
        }
        return how;
    }

    private void reset() {
        hasRun = true;
        how = 0;
        clash = -1;
        steps = 0;
        ticks = 0;
        most = 0;
        lost = 0;
        strays = 0;
        cells = 0;
        rows = 0;
        colours.clear();
        colours.add(ZERO);
        came.clear();
        gone.clear();
        ready.clear();
        readers.clear();
        ends.clear();
        madeInZero.clear();
        fired = new int[80];
    }

    private void putTokens() {
        for (Token t : tokens) {
            come(t.act, t.port, ZERO, t.value);
        }
    }

    private void come(int act, int port, Colour colour, Object value) {
        Pair pair = new Pair(act, colour);
        Object[] there = came.get(pair);
        if (there == null) {
            if (came.size() == 3000) {
                throw new Stop(2, -1);
            }
            there = new Object[acts.get(act).ports];
            came.put(pair, there);
        }
        if (there[port] != null) {
            throw new Stop(1, act);
        }
        there[port] = value;
        for (Object v : there) {
            if (v == null) {
                return;
            }
        }
        ready.add(pair);
    }

    private void give(int act, int side, Colour colour, Object value) {
        for (Way w : ways) {
            if (w.from == act && w.side == side) {
                come(w.to, w.port, colour, value);
            }
        }
    }

    private Colour known(Colour colour) {
        if (!colours.contains(colour)) {
            if (colours.size() == 600) {
                throw new Stop(2, -1);
            }
            colours.add(colour);
        }
        return colour;
    }

    private void goOff(Pair pair) {
        steps++;
        fired[pair.act]++;
        gone.add(pair);
        Object[] in = came.get(pair);
        Act a = acts.get(pair.act);
        Colour c = pair.colour;
        Object x = in[0];
        switch (a.kind) {
            case 10 -> {
                if (in[1] instanceof Integer y) {
                    give(pair.act, y != 0 ? 0 : 1, c, x);
                } else {
                    lost++;
                }
            }
            case 11 -> give(pair.act, 0, known(new Colour("loop", a.number, 0, c)), x);
            case 12, 13 -> {
                if (!c.sort.equals("loop") || c.which != a.number) {
                    give(pair.act, 0, c, new Fault(5, pair.act));
                } else if (a.kind == 12) {
                    give(pair.act, 0, known(new Colour("loop", c.which, c.turn + 1, c.in)), x);
                } else {
                    give(pair.act, 0, c.in, x);
                }
            }
            case 14 -> {
                Colour d = known(new Colour("call", pair.act, 0, c));
                for (int i = 0; i < in.length; i++) {
                    for (int p = 0; p < acts.size(); p++) {
                        if (acts.get(p).kind == 15 && acts.get(p).number == 10 * a.number + i) {
                            come(p, 0, d, in[i]);
                            break;
                        }
                    }
                }
            }
            case 16 -> {
                if (c.sort.equals("call")) {
                    give(c.which, 0, c.in, x);
                } else {
                    lost++;
                }
            }
            case 18 -> read(pair, in);
            case 19 -> write(pair, in);
            case 21 -> {
                if (!c.equals(ZERO)) {
                    strays++;
                } else if (ends.containsKey(a.number)) {
                    throw new Stop(1, pair.act);
                } else {
                    ends.put(a.number, x);
                }
            }
            default -> give(pair.act, 0, c, result(pair, a, in));
        }
    }

    private static Fault firstFault(Object... values) {
        for (Object v : values) {
            if (v instanceof Fault f) {
                return f;
            }
        }
        return null;
    }

    private Object result(Pair pair, Act a, Object[] in) {
        if (a.kind == 1) {
            return a.number;
        }
        Fault fault = firstFault(in);
        if (fault != null) {
            return fault;
        }
        if (a.kind == 0 || a.kind == 15) {
            return in[0];
        }
        Fault wrong = new Fault(4, pair.act);
        if (a.kind == 20) {
            return in[0] instanceof Row r ? (Object) r.cells.length : wrong;
        }
        if (a.kind == 8 && in[0] instanceof Row r && in[1] instanceof Row s) {
            return r == s ? 1 : 0;
        }
        for (Object v : in) {
            if (!(v instanceof Integer)) {
                return wrong;
            }
        }
        int x = (Integer) in[0];
        int y = in.length > 1 ? (Integer) in[1] : 0;
        if (y == 0 && (a.kind == 5 || a.kind == 6)) {
            return new Fault(1, pair.act);
        }
        return switch (a.kind) {
            case 2 -> x + y;
            case 3 -> x - y;
            case 4 -> x * y;
            case 5 -> x / y;
            case 6 -> x % y;
            case 7 -> x < y ? 1 : 0;
            case 8 -> x == y ? 1 : 0;
            case 9 -> x == 0 ? 1 : 0;
            default -> make(pair, x);
        };
    }

    private Object make(Pair pair, int n) {
        if (n < 0 || n > 200) {
            return new Fault(3, pair.act);
        }
        rows++;
        cells += n;
        if (rows > 300 || cells > 2000) {
            throw new Stop(2, -1);
        }
        Row row = new Row(n);
        if (pair.colour.equals(ZERO)) {
            madeInZero.put(pair.act, row);
        }
        return row;
    }

    /** The fault of ports 0 and 1, or null. */
    private Fault refused(Pair pair, Object x, Object y) {
        Fault fault = firstFault(x, y);
        if (fault != null) {
            return fault;
        }
        if (!(x instanceof Row) || !(y instanceof Integer)) {
            return new Fault(4, pair.act);
        }
        int i = (Integer) y;
        return i < 0 || i >= ((Row) x).cells.length ? new Fault(2, pair.act) : null;
    }

    private void read(Pair pair, Object[] in) {
        Fault fault = refused(pair, in[0], in[1]);
        if (fault != null) {
            give(pair.act, 0, pair.colour, fault);
            return;
        }
        Place place = new Place((Row) in[0], (Integer) in[1]);
        Object found = place.row.cells[place.i];
        if (found == null) {
            readers.computeIfAbsent(place, k -> new ArrayList<>()).add(pair);
        } else {
            give(pair.act, 0, pair.colour, found);
        }
    }

    private void write(Pair pair, Object[] in) {
        Fault fault = refused(pair, in[0], in[1]);
        if (fault != null) {
            give(pair.act, 0, pair.colour, fault);
            return;
        }
        Place place = new Place((Row) in[0], (Integer) in[1]);
        if (place.row.cells[place.i] != null) {
            throw new Stop(1, pair.act);
        }
        place.row.cells[place.i] = in[2];
        List<Pair> waiting = readers.getOrDefault(place, new ArrayList<>());
        while (!waiting.isEmpty()) {
            Pair reader = waiting.remove(0);
            give(reader.act, 0, reader.colour, in[2]);
        }
        give(pair.act, 0, pair.colour, in[2]);
    }

    private int left() {
        int left = 0;
        for (Map.Entry<Pair, Object[]> entry : came.entrySet()) {
            if (!gone.contains(entry.getKey()) && !ready.contains(entry.getKey())) {
                for (Object v : entry.getValue()) {
                    left += v == null ? 0 : 1;
                }
            }
        }
        return left;
    }

    private int waiting() {
        int waiting = 0;
        for (List<Pair> some : readers.values()) {
            waiting += some.size();
        }
        return waiting;
    }

    int about(int what) {
        if (!hasRun) {
            return -1;
        }
        return switch (what) {
            case 0 -> how;
            case 1 -> steps;
            case 2 -> ticks;
            case 3 -> most;
            case 4 -> left();
            case 5 -> waiting();
            case 6 -> lost;
            case 7 -> strays;
            case 8 -> colours.size();
            case 9 -> how == 1 ? clash : -1;
            case 10 -> ready.size();
            default -> -1;
        };
    }

    private static int tell(Object v, int what) {
        if (what == 0) {
            return v == null ? 0 : v instanceof Integer ? 1 : v instanceof Row ? 2 : 3;
        }
        if (what == 1) {
            return v == null ? -1 : v instanceof Integer i ? i
                : v instanceof Row r ? r.cells.length : ((Fault) v).cause;
        }
        return what == 2 && v instanceof Fault f ? f.act : -1;
    }

    int end(int e, int what) {
        return !hasRun || e < 0 || e > 9 ? -1 : tell(ends.get(e), what);
    }

    int fired(int act) {
        return hasRun && isAct(act) ? fired[act] : -1;
    }

    int cell(int act, int i, int what) {
        Row row = hasRun ? madeInZero.get(act) : null;
        return row == null || i < 0 || i >= row.cells.length ? -1 : tell(row.cells[i], what);
    }

    int told(int act, int what) {
        if (!isAct(act)) {
            return -1;
        }
        Act a = acts.get(act);
        return switch (what) {
            case 0 -> a.kind;
            case 1 -> a.number;
            case 2 -> a.ports;
            case 3, 4 -> (int) ways.stream().filter(w -> w.from == act && w.side == what - 3).count();
            case 5 -> (int) tokens.stream().filter(t -> t.act == act).count();
            default -> -1;
        };
    }

    private int[] figures() {
        int[] f = new int[20 + acts.size()];
        for (int i = 1; i < 6; i++) {
            f[i] = about(new int[] {0, 1, 4, 5, 6, 7}[i]);
        }
        for (int e = 0; e < 10; e++) {
            f[10 + e] = (end(e, 0) * 31 + end(e, 1)) * 31 + end(e, 2);
        }
        for (int a = 0; a < acts.size(); a++) {
            f[20 + a] = fired[a];
        }
        return f;
    }

    int beside(int seedA, int seedB, int fuel) {
        if (fuel < 0 || fuel > 4000) {
            return -2;
        }
        int howA = run(seedA, fuel);
        int[] a = figures();
        int howB = run(seedB, fuel);
        int[] b = figures();
        if (howA != howB) {
            return 0;
        }
        for (int i = 1; i < a.length && howA == 0; i++) {
            if (a[i] != b[i]) {
                return i;
            }
        }
        return -1;
    }
}
