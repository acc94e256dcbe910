import java.util.Arrays;

/**
 * A machine without a place to be at: each act goes off when all its numbers have come.
 * What it must do stands in DOC.md, as numbered promises.
 */
public final class TokenFloor {
    public static final int NONE = -1;

    private static final int WRONG_FUEL = -2;
    private static final int MAX_FUEL = 4000;
    private static final int MAX_ACTS = 80;
    private static final int MAX_WAYS = 300;
    private static final int MAX_TOKENS = 40;
    private static final int MAX_PORTS = 3;
    private static final int MAX_COLOURS = 600;
    private static final int MAX_PAIRS = 3000;
    private static final int MAX_ROWS = 300;
    private static final int MAX_CELLS = 2000;
    private static final int ENDS = 10;

    private final Graph graph;
    private final Machine machine;
    private final long[] figuresA;
    private final long[] figuresB;
    private boolean hasRun;

    public TokenFloor() {
        graph = new Graph();
        machine = new Machine(graph);
        figuresA = new long[Machine.FIGURES];
        figuresB = new long[Machine.FIGURES];
        hasRun = false;
    }

    public int act(int kind, int number, int ports) {
        return graph.addAct(kind, number, ports);
    }

    public int way(int from, int side, int to, int port) {
        return graph.addWay(from, side, to, port);
    }

    public int token(int act, int port, int value) {
        return graph.addToken(act, port, value);
    }

    public boolean clear(int what) {
        if (what < 0 || what > 2) {
            return false;
        }
        graph.dropTokens();
        if (what >= 1) {
            graph.dropWays();
        }
        if (what == 2) {
            graph.dropActs();
        }
        hasRun = false;
        return true;
    }

    public int run(int seed, int fuel) {
        if (!isFuel(fuel)) {
            return NONE;
        }
        hasRun = true;
        return machine.goBySeed(seed, fuel);
    }

    public int ticks(int fuel) {
        if (!isFuel(fuel)) {
            return NONE;
        }
        hasRun = true;
        return machine.goByTicks(fuel);
    }

    public int about(int what) {
        return hasRun ? machine.figure(what) : NONE;
    }

    public int end(int e, int what) {
        if (!hasRun || e < 0 || e >= ENDS) {
            return NONE;
        }
        return machine.describe(machine.ends[e], what);
    }

    public int fired(int act) {
        return hasRun && graph.hasAct(act) ? machine.firings[act] : NONE;
    }

    public int cell(int act, int i, int what) {
        if (!hasRun || !graph.hasAct(act)) {
            return NONE;
        }
        int place = machine.store.placeIn(machine.store.rowOfAct[act], i);
        return place == NONE ? NONE : machine.describe(machine.store.written[place], what);
    }

    public int told(int act, int what) {
        if (!graph.hasAct(act)) {
            return NONE;
        }
        switch (what) {
            case 0:
                return graph.kind[act];
            case 1:
                return graph.number[act];
            case 2:
                return graph.ports[act];
            case 3:
                return graph.countWays(act, 0);
            case 4:
                return graph.countWays(act, 1);
            case 5:
                return graph.countTokens(act);
            default:
                return NONE;
        }
    }

    public int beside(int seedA, int seedB, int fuel) {
        if (!isFuel(fuel)) {
            return WRONG_FUEL;
        }
        hasRun = true;
        machine.goBySeed(seedA, fuel);
        machine.copyFigures(figuresA);
        machine.goBySeed(seedB, fuel);
        machine.copyFigures(figuresB);
        return firstDifference();
    }

    private static boolean isFuel(int fuel) {
        return fuel >= 0 && fuel <= MAX_FUEL;
    }

    private int firstDifference() {
        boolean bothDone = figuresA[0] == Machine.DONE && figuresB[0] == Machine.DONE;
        int asked = bothDone ? Machine.FIGURES : 1;
        for (int i = 0; i < asked; i++) {
            if (figuresA[i] != figuresB[i]) {
                return i;
            }
        }
        return NONE;
    }

    /** The kinds of acts, and what the document asks of each. */
    private static final class Kind {
        static final int COPY = 0;
        static final int CONSTANT = 1;
        static final int PLUS = 2;
        static final int MINUS = 3;
        static final int TIMES = 4;
        static final int DIVIDE = 5;
        static final int REST = 6;
        static final int LESS = 7;
        static final int ALIKE = 8;
        static final int NOT = 9;
        static final int SWITCH = 10;
        static final int ENTER = 11;
        static final int NEXT = 12;
        static final int LEAVE = 13;
        static final int CALL = 14;
        static final int PARAMETER = 15;
        static final int RETURN = 16;
        static final int MAKE = 17;
        static final int READ = 18;
        static final int WRITE = 19;
        static final int SIZE = 20;
        static final int END = 21;

        // CALL's 0 is never used: its ports are told when it is made.
        private static final int[] PORTS = {
            1, 1, 2, 2, 2, 2, 2, 2, 2, 1, 2, 1, 1, 1, 0, 1, 1, 1, 2, 3, 1, 1
        };

        static boolean exists(int kind) {
            return kind >= COPY && kind <= END;
        }

        static boolean allowsNumber(int kind, int number) {
            switch (kind) {
                case ENTER:
                case NEXT:
                case LEAVE:
                case CALL:
                case END:
                    return number >= 0 && number <= 9;
                case PARAMETER:
                    return number >= 0 && number <= 99 && number % 10 < MAX_PORTS;
                default:
                    return true;
            }
        }

        static boolean allowsPorts(int kind, int ports) {
            return kind != CALL || (ports >= 1 && ports <= MAX_PORTS);
        }

        static int portsOf(int kind, int asked) {
            return kind == CALL || !exists(kind) ? asked : PORTS[kind];
        }

        static boolean hasSide(int kind, int side) {
            return side == 0 || (side == 1 && kind == SWITCH);
        }
    }

    /**
     * A value in one long, so that a run makes no objects: the sort above bit 40, a fault's act
     * above bit 32, and below it the number, the row's index or the cause.
     */
    private static final class Value {
        static final long EMPTY = 0L;
        static final int NUMBER = 1;
        static final int ROW = 2;
        static final int FAULT = 3;

        static final int BY_ZERO = 1;
        static final int NO_CELL = 2;
        static final int BAD_SIZE = 3;
        static final int WRONG_SORT = 4;
        static final int WRONG_COLOUR = 5;

        private static final long LOW = 0xFFFFFFFFL;

        static long ofNumber(int number) {
            return ((long) NUMBER << 40) | (number & LOW);
        }

        static long ofTruth(boolean truth) {
            return ofNumber(truth ? 1 : 0);
        }

        static long ofRow(int row) {
            return ((long) ROW << 40) | (row & LOW);
        }

        static long ofFault(int cause, int act) {
            return ((long) FAULT << 40) | ((long) act << 32) | (cause & LOW);
        }

        static int sortOf(long value) {
            return (int) (value >>> 40);
        }

        static int contentOf(long value) {
            return (int) value;
        }

        static int actOf(long fault) {
            return (int) (fault >>> 32) & 0xFF;
        }

        /** The fault that is given in place of a result; EMPTY if x is of the sort wanted. */
        static long refuse(int act, long x, int sort) {
            int found = sortOf(x);
            if (found == FAULT) {
                return x;
            }
            return found == sort ? EMPTY : ofFault(WRONG_SORT, act);
        }

        /** As refuse, of two values: a fault that came goes ahead of a wrong sort. */
        static long refuseTwo(int act, long x, int sortX, long y, int sortY) {
            if (sortOf(x) == FAULT) {
                return x;
            }
            if (sortOf(y) == FAULT) {
                return y;
            }
            boolean fits = sortOf(x) == sortX && sortOf(y) == sortY;
            return fits ? EMPTY : ofFault(WRONG_SORT, act);
        }
    }

    /** The kinds 2 to 9: what they give. */
    private static final class Sums {
        static long ofTwo(int kind, int act, long x, long y) {
            int sort = kind == Kind.ALIKE ? Value.sortOf(x) : Value.NUMBER;
            long refused = Value.refuseTwo(act, x, sort, y, sort);
            if (refused != Value.EMPTY) {
                return refused;
            }
            int a = Value.contentOf(x);
            int b = Value.contentOf(y);
            switch (kind) {
                case Kind.PLUS:
                    return Value.ofNumber(a + b);
                case Kind.MINUS:
                    return Value.ofNumber(a - b);
                case Kind.TIMES:
                    return Value.ofNumber(a * b);
                case Kind.DIVIDE:
                    return b == 0 ? Value.ofFault(Value.BY_ZERO, act) : Value.ofNumber(a / b);
                case Kind.REST:
                    return b == 0 ? Value.ofFault(Value.BY_ZERO, act) : Value.ofNumber(a % b);
                case Kind.LESS:
                    return Value.ofTruth(a < b);
                default:
                    return Value.ofTruth(a == b);
            }
        }

        static long not(int act, long x) {
            long refused = Value.refuse(act, x, Value.NUMBER);
            return refused != Value.EMPTY ? refused : Value.ofTruth(Value.contentOf(x) == 0);
        }
    }

    /** The acts, the ways between them, and the tokens that lie at ports when a run begins. */
    private static final class Graph {
        private static final int SIDES = 2;
        private static final int PARAMETERS = 100;

        int acts;
        final int[] kind = new int[MAX_ACTS];
        final int[] number = new int[MAX_ACTS];
        final int[] ports = new int[MAX_ACTS];
        final int[] parameter = new int[PARAMETERS];

        int ways;
        final int[] wayTo = new int[MAX_WAYS];
        final int[] wayPort = new int[MAX_WAYS];
        // Each side's ways are a chain in the order of their numbers.
        final int[] nextWay = new int[MAX_WAYS];
        final int[] firstWay = new int[SIDES * MAX_ACTS];
        final int[] lastWay = new int[SIDES * MAX_ACTS];

        int tokens;
        final int[] tokenAct = new int[MAX_TOKENS];
        final int[] tokenPort = new int[MAX_TOKENS];
        final int[] tokenValue = new int[MAX_TOKENS];

        Graph() {
            Arrays.fill(parameter, NONE);
            Arrays.fill(firstWay, NONE);
            Arrays.fill(lastWay, NONE);
        }

        boolean hasAct(int act) {
            return act >= 0 && act < acts;
        }

        boolean hasPort(int act, int port) {
            return hasAct(act) && port >= 0 && port < ports[act];
        }

        int addAct(int newKind, int newNumber, int asked) {
            boolean allowed = Kind.exists(newKind)
                && Kind.allowsNumber(newKind, newNumber)
                && Kind.allowsPorts(newKind, asked);
            if (!allowed || acts >= MAX_ACTS) {
                return NONE;
            }
            int act = acts;
            acts++;
            kind[act] = newKind;
            number[act] = newNumber;
            ports[act] = Kind.portsOf(newKind, asked);
            if (newKind == Kind.PARAMETER && parameter[newNumber] == NONE) {
                parameter[newNumber] = act;
            }
            return act;
        }

        int addWay(int from, int side, int to, int port) {
            if (!hasAct(from) || !Kind.hasSide(kind[from], side) || !hasPort(to, port)) {
                return NONE;
            }
            if (ways >= MAX_WAYS) {
                return NONE;
            }
            int way = ways;
            ways++;
            wayTo[way] = to;
            wayPort[way] = port;
            nextWay[way] = NONE;
            int chain = SIDES * from + side;
            int last = lastWay[chain];
            if (last == NONE) {
                firstWay[chain] = way;
            } else {
                nextWay[last] = way;
            }
            lastWay[chain] = way;
            return way;
        }

        int addToken(int act, int port, int value) {
            if (!hasPort(act, port) || tokens >= MAX_TOKENS) {
                return NONE;
            }
            tokenAct[tokens] = act;
            tokenPort[tokens] = port;
            tokenValue[tokens] = value;
            tokens++;
            return tokens;
        }

        void dropTokens() {
            tokens = 0;
        }

        void dropWays() {
            ways = 0;
            Arrays.fill(firstWay, NONE);
            Arrays.fill(lastWay, NONE);
        }

        void dropActs() {
            acts = 0;
            Arrays.fill(parameter, NONE);
        }

        int firstWayOf(int act, int side) {
            return firstWay[SIDES * act + side];
        }

        int countWays(int act, int side) {
            int count = 0;
            int way = firstWayOf(act, side);
            while (way != NONE && count < MAX_WAYS) {
                count++;
                way = nextWay[way];
            }
            return count;
        }

        int countTokens(int act) {
            int count = 0;
            for (int i = 0; i < tokens; i++) {
                if (tokenAct[i] == act) {
                    count++;
                }
            }
            return count;
        }

        /** The first parameter of that place of the function that the call calls, or NONE. */
        int parameterFor(int call, int i) {
            int wanted = 10 * number[call] + i;
            return wanted >= 0 && wanted < PARAMETERS ? parameter[wanted] : NONE;
        }
    }

    /**
     * The colours of a run. A colour is known by the one that it was reached from and by the key
     * of what reached it (a loop entered, the next turn, a call), so turns need no numbers.
     */
    private static final class Colours {
        static final int FIRST = 0;

        private static final int LOOPS = 10;
        private static final int NEXT_TURN = LOOPS + MAX_ACTS;

        int count;
        // The loop, LOOPS + the act of the call, or NONE of the first colour.
        private final int[] origin = new int[MAX_COLOURS];
        private final int[] outer = new int[MAX_COLOURS];
        private final int[] key = new int[MAX_COLOURS];
        private final int[] firstReached = new int[MAX_COLOURS];
        private final int[] nextReached = new int[MAX_COLOURS];

        void reset() {
            count = 0;
            add(NONE, NONE, NONE);
        }

        int enter(int colour, int loop) {
            return reach(colour, loop, loop, colour);
        }

        int nextTurn(int colour) {
            return reach(colour, NEXT_TURN, origin[colour], outer[colour]);
        }

        int callBy(int colour, int act) {
            return reach(colour, LOOPS + act, LOOPS + act, colour);
        }

        boolean isTurnOf(int colour, int loop) {
            return origin[colour] == loop;
        }

        int outerOf(int colour) {
            return outer[colour];
        }

        /** The act whose call the colour is; NONE if it is of another sort. */
        int callerOf(int colour) {
            return origin[colour] >= LOOPS ? origin[colour] - LOOPS : NONE;
        }

        private int reach(int base, int wanted, int newOrigin, int newOuter) {
            int known = firstReached[base];
            for (int i = 0; i < MAX_COLOURS && known != NONE; i++) {
                if (key[known] == wanted) {
                    return known;
                }
                known = nextReached[known];
            }
            if (count >= MAX_COLOURS) {
                return NONE;
            }
            int made = add(wanted, newOrigin, newOuter);
            nextReached[made] = firstReached[base];
            firstReached[base] = made;
            return made;
        }

        private int add(int newKey, int newOrigin, int newOuter) {
            int made = count;
            count++;
            key[made] = newKey;
            origin[made] = newOrigin;
            outer[made] = newOuter;
            firstReached[made] = NONE;
            nextReached[made] = NONE;
            return made;
        }
    }

    /** The pairs of an act and a colour that have had a token, and what came to their ports. */
    private static final class Floor {
        int left;
        final int[] actOf = new int[MAX_PAIRS];
        final int[] colourOf = new int[MAX_PAIRS];
        private int count;
        private final int[] had = new int[MAX_PAIRS];
        private final long[] came = new long[MAX_PORTS * MAX_PAIRS];
        private final int[] firstPair = new int[MAX_COLOURS];
        private final int[] nextPair = new int[MAX_PAIRS];

        void reset() {
            left = 0;
            count = 0;
            Arrays.fill(firstPair, NONE);
        }

        int find(int act, int colour) {
            int pair = firstPair[colour];
            for (int i = 0; i < MAX_ACTS && pair != NONE; i++) {
                if (actOf[pair] == act) {
                    return pair;
                }
                pair = nextPair[pair];
            }
            return NONE;
        }

        /** A new pair, or NONE if there would be too many. */
        int add(int act, int colour) {
            if (count >= MAX_PAIRS) {
                return NONE;
            }
            int pair = count;
            count++;
            actOf[pair] = act;
            colourOf[pair] = colour;
            had[pair] = 0;
            nextPair[pair] = firstPair[colour];
            firstPair[colour] = pair;
            return pair;
        }

        boolean hadToken(int pair, int port) {
            return (had[pair] >> port & 1) == 1;
        }

        /** Puts a token there; true if the pair has become ready by it. */
        boolean put(int pair, int port, long value, int ports) {
            had[pair] |= 1 << port;
            came[MAX_PORTS * pair + port] = value;
            left++;
            boolean whole = had[pair] == (1 << ports) - 1;
            if (whole) {
                left -= ports;
            }
            return whole;
        }

        long cameTo(int pair, int port) {
            return came[MAX_PORTS * pair + port];
        }
    }

    /** The pairs that are ready, as they became so. */
    private static final class ReadyRow {
        // A pair becomes ready once at most, so the row never goes round.
        private final int[] row = new int[MAX_PAIRS];
        private int head;
        private int tail;

        void reset() {
            head = 0;
            tail = 0;
        }

        int size() {
            return tail - head;
        }

        void add(int pair) {
            if (tail < MAX_PAIRS) {
                row[tail] = pair;
                tail++;
            }
        }

        /** Takes the i-th out of the row; NONE if there is none. */
        int take(int i) {
            if (i < 0 || i >= size()) {
                return NONE;
            }
            int place = head + i;
            int pair = row[place];
            if (i == 0) {
                head++;
            } else {
                System.arraycopy(row, place + 1, row, place, tail - place - 1);
                tail--;
            }
            return pair;
        }
    }

    /** The rows that a run made, what is written in their cells, and the readers that wait. */
    private static final class Store {
        static final int MAX_SIZE = 200;

        int waiting;
        final int[] rowOfAct = new int[MAX_ACTS];
        final long[] written = new long[MAX_CELLS];
        private int rows;
        private int cells;
        private final int[] start = new int[MAX_ROWS];
        private final int[] size = new int[MAX_ROWS];
        private final int[] firstReader = new int[MAX_CELLS];
        private final int[] lastReader = new int[MAX_CELLS];
        private final int[] nextReader = new int[MAX_PAIRS];

        void reset() {
            waiting = 0;
            rows = 0;
            cells = 0;
            Arrays.fill(rowOfAct, NONE);
        }

        /** A new row of 0 to 200 cells, or NONE if there would be too many rows or cells. */
        int make(int cellsAsked) {
            if (rows >= MAX_ROWS || cells + cellsAsked > MAX_CELLS) {
                return NONE;
            }
            int row = rows;
            rows++;
            start[row] = cells;
            size[row] = cellsAsked;
            for (int i = 0; i < cellsAsked; i++) {
                written[cells] = Value.EMPTY;
                firstReader[cells] = NONE;
                lastReader[cells] = NONE;
                cells++;
            }
            return row;
        }

        int sizeOf(int row) {
            return row >= 0 && row < rows ? size[row] : 0;
        }

        /** Where cell i of the row stands; NONE if there is no such row or cell. */
        int placeIn(int row, int i) {
            return i >= 0 && i < sizeOf(row) ? start[row] + i : NONE;
        }

        void addReader(int place, int pair) {
            nextReader[pair] = NONE;
            int last = lastReader[place];
            if (last == NONE) {
                firstReader[place] = pair;
            } else {
                nextReader[last] = pair;
            }
            lastReader[place] = pair;
            waiting++;
        }

        /** The reader that has waited longest waits no more; NONE if none waits there. */
        int takeReader(int place) {
            int pair = firstReader[place];
            if (pair == NONE) {
                return NONE;
            }
            // The last one stays as it is: nobody comes to wait for a cell that is written.
            firstReader[place] = nextReader[pair];
            waiting--;
            return pair;
        }
    }

    /** A run of the graph, and, when it is over, what is told of it. */
    private static final class Machine {
        static final int DONE = 0;
        static final int FIGURES = 20 + MAX_ACTS;

        private static final int GOING = -1;
        private static final int CLASH = 1;
        private static final int FULL = 2;
        private static final int SPENT = 3;
        private static final int FIRST_END = 10;
        private static final int FIRST_FIRED = 20;

        final Store store = new Store();
        final int[] firings = new int[MAX_ACTS];
        final long[] ends = new long[ENDS];
        private final Graph graph;
        private final Colours colours = new Colours();
        private final Floor floor = new Floor();
        private final ReadyRow ready = new ReadyRow();
        private int how;
        private int steps;
        private int tickCount;
        private int most;
        private int lost;
        private int strays;
        private int clashAct;

        Machine(Graph graph) {
            this.graph = graph;
        }

        int goBySeed(int seed, int fuel) {
            begin();
            int s = seed;
            for (int i = 0; i <= fuel && mayStep(fuel); i++) {
                s = 1103515245 * s + 12345;
                int n = ready.size();
                goOff(ready.take(n == 0 ? 0 : (s >>> 16) % n));
            }
            most = steps > 0 ? 1 : 0;
            return how;
        }

        int goByTicks(int fuel) {
            begin();
            for (int i = 0; i <= fuel && mayStep(fuel); i++) {
                goTick(fuel);
            }
            return how;
        }

        int figure(int what) {
            switch (what) {
                case 0:
                    return how;
                case 1:
                    return steps;
                case 2:
                    return tickCount;
                case 3:
                    return most;
                case 4:
                    return floor.left;
                case 5:
                    return store.waiting;
                case 6:
                    return lost;
                case 7:
                    return strays;
                case 8:
                    return colours.count;
                case 9:
                    return clashAct;
                case 10:
                    return ready.size();
                default:
                    return NONE;
            }
        }

        /** What end() and cell() tell of a value. */
        int describe(long value, int what) {
            int sort = Value.sortOf(value);
            switch (what) {
                case 0:
                    return sort;
                case 1:
                    if (value == Value.EMPTY) {
                        return NONE;
                    }
                    int content = Value.contentOf(value);
                    return sort == Value.ROW ? store.sizeOf(content) : content;
                case 2:
                    return sort == Value.FAULT ? Value.actOf(value) : NONE;
                default:
                    return NONE;
            }
        }

        /** The figures that beside() compares, each at the index by which it is told. */
        void copyFigures(long[] figures) {
            figures[0] = how;
            figures[1] = steps;
            figures[2] = floor.left;
            figures[3] = store.waiting;
            figures[4] = lost;
            figures[5] = strays;
            for (int e = 0; e < ENDS; e++) {
                figures[FIRST_END + e] = comparable(ends[e]);
            }
            for (int act = 0; act < MAX_ACTS; act++) {
                figures[FIRST_FIRED + act] = firings[act];
            }
        }

        // A row's index depends on the order of the steps; its size is what two runs share.
        private long comparable(long value) {
            if (Value.sortOf(value) != Value.ROW) {
                return value;
            }
            return Value.ofRow(store.sizeOf(Value.contentOf(value)));
        }

        private void begin() {
            colours.reset();
            floor.reset();
            ready.reset();
            store.reset();
            Arrays.fill(firings, 0);
            Arrays.fill(ends, Value.EMPTY);
            how = GOING;
            steps = 0;
            tickCount = 0;
            most = 0;
            lost = 0;
            strays = 0;
            clashAct = NONE;
            for (int i = 0; i < graph.tokens && how == GOING; i++) {
                long value = Value.ofNumber(graph.tokenValue[i]);
                arrive(graph.tokenAct[i], graph.tokenPort[i], Colours.FIRST, value);
            }
        }

        /** Whether there is a step more; if not, how tells why. */
        private boolean mayStep(int fuel) {
            if (how == GOING) {
                if (ready.size() == 0) {
                    how = DONE;
                } else if (steps >= fuel) {
                    how = SPENT;
                }
            }
            return how == GOING;
        }

        private void goTick(int fuel) {
            int standing = ready.size();
            int gone = 0;
            while (gone < standing && mayStep(fuel)) {
                goOff(ready.take(0));
                gone++;
            }
            tickCount++;
            most = Math.max(most, gone);
        }

        private void goOff(int pair) {
            if (pair == NONE) {
                return;
            }
            int act = floor.actOf[pair];
            int colour = floor.colourOf[pair];
            long x = floor.cameTo(pair, 0);
            steps++;
            firings[act]++;
            switch (graph.kind[act]) {
                case Kind.SWITCH:
                    goSwitch(act, colour, x, floor.cameTo(pair, 1));
                    break;
                case Kind.ENTER:
                    give(act, 0, colours.enter(colour, graph.number[act]), x);
                    break;
                case Kind.NEXT:
                case Kind.LEAVE:
                    goTurn(act, colour, x);
                    break;
                case Kind.CALL:
                    goCall(pair, act, colour);
                    break;
                case Kind.RETURN:
                    goReturn(colour, x);
                    break;
                case Kind.MAKE:
                    goMake(act, colour, x);
                    break;
                case Kind.READ:
                    goRead(pair, act, colour);
                    break;
                case Kind.WRITE:
                    goWrite(pair, act, colour);
                    break;
                case Kind.END:
                    goEnd(act, colour, x);
                    break;
                default:
                    give(act, 0, colour, plainResult(pair, act, x));
                    break;
            }
        }

        /** What the kinds give that stay in their colour and touch no cell. */
        private long plainResult(int pair, int act, long x) {
            int kind = graph.kind[act];
            switch (kind) {
                case Kind.COPY:
                case Kind.PARAMETER:
                    return x;
                case Kind.CONSTANT:
                    return Value.ofNumber(graph.number[act]);
                case Kind.NOT:
                    return Sums.not(act, x);
                case Kind.SIZE:
                    long refused = Value.refuse(act, x, Value.ROW);
                    int row = Value.contentOf(x);
                    return refused != Value.EMPTY ? refused : Value.ofNumber(store.sizeOf(row));
                default:
                    return Sums.ofTwo(kind, act, x, floor.cameTo(pair, 1));
            }
        }

        private void goSwitch(int act, int colour, long x, long y) {
            if (Value.sortOf(y) != Value.NUMBER) {
                lost++;
            } else {
                give(act, Value.contentOf(y) != 0 ? 0 : 1, colour, x);
            }
        }

        private void goTurn(int act, int colour, long x) {
            if (!colours.isTurnOf(colour, graph.number[act])) {
                give(act, 0, colour, Value.ofFault(Value.WRONG_COLOUR, act));
            } else if (graph.kind[act] == Kind.NEXT) {
                give(act, 0, colours.nextTurn(colour), x);
            } else {
                give(act, 0, colours.outerOf(colour), x);
            }
        }

        private void goCall(int pair, int act, int colour) {
            int inside = colours.callBy(colour, act);
            if (inside == NONE) {
                how = FULL;
                return;
            }
            for (int i = 0; i < graph.ports[act] && how == GOING; i++) {
                int parameter = graph.parameterFor(act, i);
                if (parameter != NONE) {
                    arrive(parameter, 0, inside, floor.cameTo(pair, i));
                }
            }
        }

        private void goReturn(int colour, long x) {
            int call = colours.callerOf(colour);
            if (call == NONE) {
                lost++;
            } else {
                give(call, 0, colours.outerOf(colour), x);
            }
        }

        private void goMake(int act, int colour, long x) {
            long refused = Value.refuse(act, x, Value.NUMBER);
            int size = Value.contentOf(x);
            if (refused == Value.EMPTY && (size < 0 || size > Store.MAX_SIZE)) {
                refused = Value.ofFault(Value.BAD_SIZE, act);
            }
            if (refused != Value.EMPTY) {
                give(act, 0, colour, refused);
                return;
            }
            int row = store.make(size);
            if (row == NONE) {
                how = FULL;
                return;
            }
            if (colour == Colours.FIRST) {
                store.rowOfAct[act] = row;
            }
            give(act, 0, colour, Value.ofRow(row));
        }

        private void goRead(int pair, int act, int colour) {
            int place = placeAsked(pair);
            long refused = refuseCell(pair, act, place);
            if (refused != Value.EMPTY || place == NONE) {
                give(act, 0, colour, refused);
                return;
            }
            long found = store.written[place];
            if (found == Value.EMPTY) {
                store.addReader(place, pair);
            } else {
                give(act, 0, colour, found);
            }
        }

        private void goWrite(int pair, int act, int colour) {
            int place = placeAsked(pair);
            long refused = refuseCell(pair, act, place);
            if (refused != Value.EMPTY || place == NONE) {
                give(act, 0, colour, refused);
                return;
            }
            if (store.written[place] != Value.EMPTY) {
                clashAt(act);
                return;
            }
            long z = floor.cameTo(pair, 2);
            store.written[place] = z;
            int reader = store.takeReader(place);
            for (int i = 0; i < MAX_PAIRS && reader != NONE; i++) {
                give(floor.actOf[reader], 0, floor.colourOf[reader], z);
                reader = how == GOING ? store.takeReader(place) : NONE;
            }
            give(act, 0, colour, z);
        }

        /** The fault that READ and WRITE give by what came to ports 0 and 1, or EMPTY. */
        private long refuseCell(int pair, int act, int place) {
            long x = floor.cameTo(pair, 0);
            long y = floor.cameTo(pair, 1);
            long refused = Value.refuseTwo(act, x, Value.ROW, y, Value.NUMBER);
            if (refused == Value.EMPTY && place == NONE) {
                return Value.ofFault(Value.NO_CELL, act);
            }
            return refused;
        }

        // Only of use behind refuseCell, which sees to the sorts.
        private int placeAsked(int pair) {
            int row = Value.contentOf(floor.cameTo(pair, 0));
            return store.placeIn(row, Value.contentOf(floor.cameTo(pair, 1)));
        }

        private void goEnd(int act, int colour, long x) {
            int e = graph.number[act];
            if (colour != Colours.FIRST) {
                strays++;
            } else if (ends[e] != Value.EMPTY) {
                clashAt(act);
            } else {
                ends[e] = x;
            }
        }

        private void clashAt(int act) {
            how = CLASH;
            clashAct = act;
        }

        /**
         * Nothing is given once the run has stopped within the step. The colour is NONE if there
         * was no room for the one that was to be reached.
         */
        private void give(int act, int side, int colour, long value) {
            if (colour == NONE) {
                how = FULL;
                return;
            }
            int way = graph.firstWayOf(act, side);
            for (int i = 0; i < MAX_WAYS && way != NONE && how == GOING; i++) {
                arrive(graph.wayTo[way], graph.wayPort[way], colour, value);
                way = graph.nextWay[way];
            }
        }

        private void arrive(int act, int port, int colour, long value) {
            int pair = floor.find(act, colour);
            if (pair == NONE) {
                pair = floor.add(act, colour);
            }
            if (pair == NONE) {
                how = FULL;
            } else if (floor.hadToken(pair, port)) {
                clashAt(act);
            } else if (floor.put(pair, port, value, graph.ports[act])) {
                ready.add(pair);
            }
        }
    }
}
