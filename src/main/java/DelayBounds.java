import java.util.NoSuchElementException;

/** Delay certificates for packet nets. The words in capitals are those of ../shared/DOC.md. */
public final class DelayBounds {
    public static final int NONE = -1;

    private static final int OTHERS = -2;
    private static final int UNKNOWN = -2;

    private static final int MOST_SIGNS = 1000;
    private static final int MOST_LETTERS = 8;
    private static final int MOST_DIGITS = 4;
    private static final int MOST_CURVES = 6;
    private static final int MOST_VALUES = 8;
    private static final int MOST_NODES = 4;
    private static final int MOST_FLOWS = 4;
    private static final int MOST_AMOUNT = 99;
    private static final int MOST_LINES = 40;
    private static final int MOST_PUT = 9;
    private static final int MOST_UNITS = 40;
    private static final int MOST_ROUNDS = 60;
    private static final int MOST_DEPTH = 5;
    private static final int MOST_SEEN = 8;
    private static final int MOST_MUCH = 999;
    private static final int MOST_SEED = 9999;
    private static final int MARKS = 2;
    private static final int LAST_TIME = 60;
    private static final int SPAN = 60;
    private static final int REACH = 120;

    private static final int BLIND = 0;
    private static final int FIRST = 1;
    private static final int FIFO = 2;
    private static final int FAIR = 3;

    private static final int CANT_STAND = 1;
    private static final int NOT_TOLD = 2;
    private static final int TOLD_TWICE = 3;
    private static final int BAD_NUMBER = 4;
    private static final int TOO_MANY = 5;

    private final Tape tape;
    private final NetReader reader;
    private Net told;
    private Net spareNet;
    private Script script;
    private Script spareScript;
    private final Traffic live;
    private final Traffic trial;
    private final Sightings seen;
    private final Traffic[] markedTraffic;
    private final Sightings[] markedSeen;
    private final boolean[] marked;
    private final Settling settling;
    private final int[] triedTotals;
    private final int[] rowA;
    private final int[] rowB;
    private final int[] rowC;

    public DelayBounds() {
        tape = new Tape();
        told = new Net();
        spareNet = new Net();
        reader = new NetReader(tape, spareNet);
        script = new Script();
        spareScript = new Script();
        live = new Traffic();
        trial = new Traffic();
        seen = new Sightings();
        markedTraffic = new Traffic[MARKS];
        markedSeen = new Sightings[MARKS];
        for (int i = 0; i < MARKS; i++) {
            markedTraffic[i] = new Traffic();
            markedSeen[i] = new Sightings();
        }
        marked = new boolean[MARKS];
        settling = new Settling(told);
        triedTotals = new int[MOST_NODES * MOST_CURVES * MOST_FLOWS];
        rowA = new int[REACH + 1];
        rowB = new int[REACH + 1];
        rowC = new int[REACH + 1];
    }

    // ---- the texts ----

    public int feed(long a, long b, long c) {
        appendBytes(a);
        appendBytes(b);
        appendBytes(c);
        return tape.length;
    }

    private void appendBytes(long bytes) {
        for (int shift = 56; shift >= 0; shift -= 8) {
            tape.append((char) ((bytes >>> shift) & 255L));
        }
    }

    public int net() {
        int fault = reader.read(spareNet);
        tape.empty();
        if (fault == 0) {
            Net before = told;
            told = spareNet;
            spareNet = before;
            beginAnew();
        }
        return fault;
    }

    private void beginAnew() {
        live.reset();
        script.lines = 0;
        seen.many = 0;
        for (int i = 0; i < MARKS; i++) {
            marked[i] = false;
        }
        settling.forget();
        for (int i = 0; i < triedTotals.length; i++) {
            triedTotals[i] = UNKNOWN;
        }
    }

    public int run() {
        int fault = spareScript.read(tape, told);
        tape.empty();
        if (fault == 0) {
            Script before = script;
            script = spareScript;
            spareScript = before;
        }
        return fault;
    }

    // ---- what the NET is ----

    private boolean isCurve(int curve) {
        return curve >= 0 && curve < told.curves;
    }

    private boolean isNode(int node) {
        return node >= 0 && node < told.nodes;
    }

    private boolean isFlow(int flow) {
        return flow >= 0 && flow < told.flows;
    }

    private boolean isHop(int flow, int hop) {
        return isFlow(flow) && hop >= 0 && hop < told.hops[flow];
    }

    private static boolean isWithin(int t, int last) {
        return t >= 0 && t <= last;
    }

    public int curve(int curve, int what) {
        if (!isCurve(curve)) {
            return NONE;
        }
        Curve c = told.curve[curve];
        switch (what) {
            case 0:
                return c.length;
            case 1:
                return c.again;
            case 2:
                return c.adds;
            case 3:
                return c.again > 0 ? c.adds * 1000 / c.again : NONE;
            case 4:
                return c.bends();
            default:
                return NONE;
        }
    }

    public int node(int node, int what) {
        if (!isNode(node)) {
            return NONE;
        }
        switch (what) {
            case 0:
                return told.discipline[node];
            case 1:
                return told.nodeCurve[node];
            case 2:
                return told.over[node];
            case 3:
                return live.queued[node];
            case 4:
                return live.busy[node];
            default:
                return NONE;
        }
    }

    public int flow(int flow, int what) {
        if (!isFlow(flow)) {
            return NONE;
        }
        switch (what) {
            case 0:
                return told.flowCurve[flow];
            case 1:
                return told.hops[flow];
            case 2:
                return live.unitsOf(flow);
            case 3:
                return live.gone[flow];
            case 4:
                return live.lost[flow];
            default:
                return NONE;
        }
    }

    public int way(int flow, int hop) {
        return isHop(flow, hop) ? told.way[flow][hop] : NONE;
    }

    // ---- CURVES by themselves ----

    public int value(int curve, int t) {
        return isCurve(curve) && isWithin(t, REACH) ? told.curve[curve].at(t) : NONE;
    }

    public int fold(int curve, int other, int t) {
        if (!isCurve(curve) || !isCurve(other) || !isWithin(t, REACH)) {
            return NONE;
        }
        told.curve[curve].fill(rowA, 0);
        told.curve[other].fill(rowB, 0);
        return foldedAt(rowA, rowB, t);
    }

    private static int foldedAt(int[] first, int[] second, int t) {
        int least = first[0] + second[t];
        for (int s = 1; s <= t; s++) {
            least = Math.min(least, first[s] + second[t - s]);
        }
        return least;
    }

    public int unfold(int curve, int other, int t) throws NoSuchElementException {
        if (!isCurve(curve) || !isCurve(other) || !isWithin(t, SPAN)) {
            throw new NoSuchElementException();
        }
        Curve first = told.curve[curve];
        Curve second = told.curve[other];
        int most = first.at(t) - second.at(0);
        for (int s = 1; s <= SPAN; s++) {
            most = Math.max(most, first.at(t + s) - second.at(s));
        }
        return most;
    }

    public int star(int curve, int t) {
        if (!isCurve(curve) || !isWithin(t, SPAN)) {
            return NONE;
        }
        int[] stars = rowA;
        stars[0] = 0;
        for (int u = 1; u <= t; u++) {
            int least = told.curve[curve].at(u);
            // the two parts may change places: half of them tell all
            for (int s = 1; s <= u - s; s++) {
                least = Math.min(least, stars[s] + stars[u - s]);
            }
            stars[u] = least;
        }
        return stars[t];
    }

    public boolean sub(int curve) {
        if (!isCurve(curve)) {
            return false;
        }
        int[] row = rowA;
        told.curve[curve].fill(row, 0);
        for (int both = 2; both <= SPAN; both++) {
            for (int s = 1; s <= both - s; s++) {
                if (row[s] + row[both - s] < row[both]) {
                    return false;
                }
            }
        }
        return true;
    }

    public int late(int curve, int other) {
        if (!isCurve(curve) || !isCurve(other)) {
            return NONE;
        }
        told.curve[curve].fill(rowA, 0);
        told.curve[other].fill(rowB, 0);
        return lateness(rowA, rowB);
    }

    /** LATE of two rows, the second told to REACH; neither ever falls, so what a d has passed a greater one passes. */
    private static int lateness(int[] first, int[] second) {
        int d = 0;
        for (int t = 0; t <= SPAN; t++) {
            while (d <= SPAN && first[t] > second[t + d]) {
                d++;
            }
            if (d > SPAN) {
                return NONE;
            }
        }
        return d;
    }

    public int behind(int curve, int other) throws NoSuchElementException {
        if (!isCurve(curve) || !isCurve(other)) {
            throw new NoSuchElementException();
        }
        told.curve[curve].fill(rowA, 0);
        told.curve[other].fill(rowB, 0);
        return mostAbove(rowA, rowB);
    }

    private static int mostAbove(int[] first, int[] second) {
        int most = first[0] - second[0];
        for (int t = 1; t <= SPAN; t++) {
            most = Math.max(most, first[t] - second[t]);
        }
        return most;
    }

    public int above(int curve, int other) {
        if (!isCurve(curve) || !isCurve(other)) {
            return NONE;
        }
        for (int t = 0; t <= SPAN; t++) {
            if (told.curve[curve].at(t) > told.curve[other].at(t)) {
                return t;
            }
        }
        return NONE;
    }

    // ---- what is SETTLED ----

    private boolean diverges() {
        return settling.roundsAsTold(told) == NONE;
    }

    public int rounds() {
        return settling.roundsAsTold(told);
    }

    public int delay(int flow, int hop) {
        return isHop(flow, hop) && !diverges() ? settling.delays[flow][hop] : NONE;
    }

    public int arrives(int flow, int hop, int t) {
        if (!isHop(flow, hop) || !isWithin(t, SPAN) || diverges()) {
            return NONE;
        }
        return settling.arrivingAt(flow, told.way[flow][hop], t);
    }

    public int left(int flow, int hop, int t) {
        if (!isHop(flow, hop) || !isWithin(t, SPAN) || diverges()) {
            return NONE;
        }
        settling.fillLeft(flow, told.way[flow][hop], rowA);
        return rowA[t];
    }

    public int total(int flow) {
        return isFlow(flow) && !diverges() ? settling.totalOf(flow) : NONE;
    }

    public int once(int flow) {
        return isFlow(flow) && !diverges() ? paidOnce(flow) : NONE;
    }

    private int paidOnce(int flow) {
        int atFifo = 0;
        boolean isFolded = false;
        for (int hop = 0; hop < told.hops[flow]; hop++) {
            int node = told.way[flow][hop];
            if (told.discipline[node] == FIFO) {
                atFifo += settling.delays[flow][hop];
            } else {
                foldOn(flow, node, !isFolded);
                isFolded = true;
            }
        }
        if (!isFolded) {
            return atFifo;
        }
        told.curve[told.flowCurve[flow]].fill(rowB, 0);
        int d = lateness(rowB, rowA);
        return d == NONE ? NONE : d + atFifo;
    }

    /** Row A is what is LEFT at the NODES ahead, FOLDED; what is LEFT at this one comes to it. */
    private void foldOn(int flow, int node, boolean isFirst) {
        if (isFirst) {
            settling.fillLeft(flow, node, rowA);
            return;
        }
        settling.fillLeft(flow, node, rowB);
        for (int t = 0; t <= REACH; t++) {
            rowC[t] = foldedAt(rowA, rowB, t);
        }
        System.arraycopy(rowC, 0, rowA, 0, REACH + 1);
    }

    public int full(int node) {
        if (!isNode(node) || diverges()) {
            return NONE;
        }
        settling.fillComing(node, rowA);
        told.curve[told.nodeCurve[node]].fill(rowB, 0);
        return Math.max(0, mostAbove(rowA, rowB));
    }

    public int comes(int node, int t) {
        if (!isNode(node) || !isWithin(t, SPAN) || diverges()) {
            return NONE;
        }
        settling.fillComing(node, rowA);
        return rowA[t];
    }

    public int saves(int flow) throws NoSuchElementException {
        int paid = isFlow(flow) && !diverges() ? paidOnce(flow) : NONE;
        if (paid == NONE) {
            throw new NoSuchElementException();
        }
        return settling.totalOf(flow) - paid;
    }

    public int worst() {
        if (told.flows == 0 || diverges()) {
            return NONE;
        }
        int worst = 0;
        for (int flow = 1; flow < told.flows; flow++) {
            if (settling.totalOf(flow) > settling.totalOf(worst)) {
                worst = flow;
            }
        }
        return worst;
    }

    public int tries(int node, int curve, int flow) {
        return isNode(node) && isCurve(curve) && isFlow(flow) ? triedTotal(node, curve, flow) : NONE;
    }

    /** A try settles all FLOWS at once, so what it told is kept for each of them. */
    private int triedTotal(int node, int curve, int flow) {
        int at = (node * MOST_CURVES + curve) * MOST_FLOWS;
        if (triedTotals[at + flow] == UNKNOWN) {
            settling.settle(told, node, curve);
            for (int f = 0; f < told.flows; f++) {
                triedTotals[at + f] = settling.rounds == NONE ? NONE : settling.totalOf(f);
            }
        }
        return triedTotals[at + flow];
    }

    public int tune(int node, int flow) {
        if (!isNode(node) || !isFlow(flow)) {
            return NONE;
        }
        int best = NONE;
        int least = NONE;
        for (int curve = 0; curve < told.curves; curve++) {
            int total = triedTotal(node, curve, flow);
            if (total != NONE && (best == NONE || total < least)) {
                best = curve;
                least = total;
            }
        }
        return best;
    }

    // ---- UNITS ----

    public int put(int flow, int many) {
        return isFlow(flow) && many >= 1 && many <= MOST_PUT ? live.admit(told, flow, many) : NONE;
    }

    public int tick() {
        return live.passOn(told);
    }

    public int judged(int what) {
        if (what < 0 || what > 3) {
            return OTHERS;
        }
        int line = trial.play(told, script);
        switch (what) {
            case 0:
                return line;
            case 1:
                return Traffic.sum(trial.gone);
            case 2:
                return trial.latestOfAll();
            default:
                return Traffic.sum(trial.queued);
        }
    }

    public boolean fits(int flow) {
        return isFlow(flow) && live.keepsTo(told.curve[told.flowCurve[flow]], flow);
    }

    public boolean holds(int flow) {
        return isFlow(flow) && (diverges() || live.latest[flow] <= settling.totalOf(flow));
    }

    public int serves(int node) {
        return isNode(node) ? live.servedFirst(told, node) : NONE;
    }

    public int latest(int flow) {
        return isFlow(flow) ? live.latest[flow] : NONE;
    }

    public int oldest(int flow) {
        return isFlow(flow) ? live.oldestOf(flow) : NONE;
    }

    // ---- the unknown CURVE ----

    public boolean see(int t, int much, boolean more) {
        return isWithin(t, SPAN) && isWithin(much, MOST_MUCH) && seen.add(t, much, more);
    }

    public int who() {
        int bits = 0;
        for (int curve = 0; curve < told.curves; curve++) {
            if (seen.suits(told.curve[curve])) {
                bits |= 1 << curve;
            }
        }
        return bits;
    }

    public int look() {
        int bits = who();
        int least = Integer.bitCount(bits);
        int best = NONE;
        for (int t = 0; t <= SPAN; t++) {
            int alike = mostAlike(bits, t);
            if (alike < least) {
                least = alike;
                best = t;
            }
        }
        return best;
    }

    private int mostAlike(int bits, int t) {
        int most = 0;
        for (int curve = 0; curve < told.curves; curve++) {
            int alike = 0;
            for (int other = 0; other < told.curves; other++) {
                boolean both = (bits >> curve & 1) == 1 && (bits >> other & 1) == 1;
                if (both && told.curve[curve].at(t) == told.curve[other].at(t)) {
                    alike++;
                }
            }
            most = Math.max(most, alike);
        }
        return most;
    }

    // ---- runs by draws, MARKS, counts ----

    public int loads(int seed, int ticks, int what) {
        if (!isWithin(seed, MOST_SEED) || ticks < 1 || ticks > LAST_TIME || what < 0 || what > 2) {
            return OTHERS;
        }
        trial.copy(live);
        int goneByThese = trial.playDraws(told, seed, ticks);
        switch (what) {
            case 0:
                return goneByThese;
            case 1:
                return Traffic.sum(trial.queued);
            default:
                return trial.latestOfAll();
        }
    }

    public boolean mark(int mark, boolean back) {
        if (mark < 0 || mark >= MARKS || back && !marked[mark]) {
            return false;
        }
        if (back) {
            live.copy(markedTraffic[mark]);
            seen.copy(markedSeen[mark]);
        } else {
            markedTraffic[mark].copy(live);
            markedSeen[mark].copy(seen);
            marked[mark] = true;
        }
        return true;
    }

    public int count(int what) {
        switch (what) {
            case 0:
                return told.curves;
            case 1:
                return told.nodes;
            case 2:
                return told.flows;
            case 3:
                return live.time;
            case 4:
                return Traffic.sum(live.queued);
            case 5:
                return Traffic.sum(live.gone);
            case 6:
                return Traffic.sum(live.lost);
            case 7:
                return script.lines;
            case 8:
                return seen.many;
            case 9:
                return tape.length;
            default:
                return NONE;
        }
    }

    /** A CURVE; one that is not told yet is 0 everywhere. */
    private static final class Curve {
        final int[] values = new int[MOST_VALUES];
        int length;
        int again;
        int adds;

        int at(int t) {
            if (t < 0 || again < 1 || again > length) {
                return 0;
            }
            if (t < length) {
                return values[t];
            }
            int turns = (t - length) / again + 1;
            return values[t - turns * again] + turns * adds;
        }

        void fill(int[] row, int shift) {
            for (int t = 0; t < row.length; t++) {
                row[t] = at(t + shift);
            }
        }

        int bends() {
            boolean neverMore = true;
            boolean neverLess = true;
            int before = at(1) - at(0);
            for (int t = 1; t <= SPAN; t++) {
                int step = at(t + 1) - at(t);
                neverMore = neverMore && step <= before;
                neverLess = neverLess && step >= before;
                before = step;
            }
            return (neverMore ? 1 : 0) + (neverLess ? 2 : 0);
        }
    }

    /** The E of loses, each sign behind what it works on: a NUMBER as it is, all else as its token's kind below 0. */
    private static final class Law {
        static final int WEAKEST = 0;
        static final int TEST = 1;
        static final int SUM = 2;
        static final int STRONGEST = 3;
        /** In each of the 5 depths each strength can keep one waiting, and one more comes to these. */
        private static final int MOST_WAITING = 21;

        private final int[] codes = new int[MOST_SIGNS];
        private final int[] waiting = new int[MOST_WAITING];
        private int length;

        void reset() {
            length = 0;
        }

        void add(int code) {
            if (length < codes.length) {
                codes[length] = code;
                length++;
            }
        }

        /** How strongly a sign binds the two beside it; NONE: it is no such sign. */
        static int strengthOf(int kind) {
            switch (kind) {
                case Tape.AND:
                case Tape.OR:
                    return WEAKEST;
                case Tape.LESS:
                case Tape.EQUAL:
                    return TEST;
                case Tape.PLUS:
                case Tape.MINUS:
                    return SUM;
                case Tape.TIMES:
                    return STRONGEST;
                default:
                    return NONE;
            }
        }

        int worth(int queue, int here, int which, int time) {
            int top = 0;
            for (int i = 0; i < length; i++) {
                int code = codes[i];
                if (code == -Tape.NOT) {
                    if (top >= 1) {
                        waiting[top - 1] = waiting[top - 1] == 0 ? 1 : 0;
                    }
                } else if (strengthOf(-code) != NONE) {
                    if (top >= 2) {
                        top--;
                        waiting[top - 1] = joined(-code, waiting[top - 1], waiting[top]);
                    }
                } else if (top < waiting.length) {
                    waiting[top] = code >= 0 ? code : fact(-code, queue, here, which, time);
                    top++;
                }
            }
            return top == 1 ? waiting[0] : 0;
        }

        private static int fact(int kind, int queue, int here, int which, int time) {
            switch (kind) {
                case Tape.QUEUE:
                    return queue;
                case Tape.HERE:
                    return here;
                case Tape.WHICH:
                    return which;
                default:
                    return time;
            }
        }

        private static int joined(int kind, int a, int b) {
            switch (kind) {
                case Tape.AND:
                    return a != 0 && b != 0 ? 1 : 0;
                case Tape.OR:
                    return a != 0 || b != 0 ? 1 : 0;
                case Tape.LESS:
                    return a < b ? 1 : 0;
                case Tape.EQUAL:
                    return a == b ? 1 : 0;
                case Tape.PLUS:
                    return a + b;
                case Tape.MINUS:
                    return a - b;
                default:
                    return a * b;
            }
        }
    }

    private static final class Net {
        final Curve[] curve = new Curve[MOST_CURVES];
        final long[] curveNames = new long[MOST_CURVES];
        final long[] nodeNames = new long[MOST_NODES];
        final long[] flowNames = new long[MOST_FLOWS];
        final int[] discipline = new int[MOST_NODES];
        final int[] nodeCurve = new int[MOST_NODES];
        final int[] flowCurve = new int[MOST_FLOWS];
        final int[] hops = new int[MOST_FLOWS];
        final int[][] way = new int[MOST_FLOWS][MOST_NODES];
        /** FLOWS over each NODE, as bits. */
        final int[] over = new int[MOST_NODES];
        final Law law = new Law();
        int curves;
        int nodes;
        int flows;
        boolean hasLaw;

        Net() {
            for (int i = 0; i < MOST_CURVES; i++) {
                curve[i] = new Curve();
            }
        }

        void reset() {
            curves = 0;
            nodes = 0;
            flows = 0;
            hasLaw = false;
            law.reset();
            for (int node = 0; node < MOST_NODES; node++) {
                over[node] = 0;
            }
        }

        static int find(long[] names, int many, long name) {
            for (int i = 0; i < many && i < names.length; i++) {
                if (names[i] == name) {
                    return i;
                }
            }
            return NONE;
        }

        boolean knows(long name) {
            return find(curveNames, curves, name) != NONE
                || find(nodeNames, nodes, name) != NONE
                || find(flowNames, flows, name) != NONE;
        }

        int hopAt(int flow, int node) {
            for (int hop = 0; hop < hops[flow]; hop++) {
                if (way[flow][hop] == node) {
                    return hop;
                }
            }
            return NONE;
        }
    }

    /** The TAPE and the token on it that is read just now. */
    private static final class Tape {
        static final int END = 0;
        static final int NOTHING = 1;
        static final int NUMBER = 2;
        static final int NAME = 3;
        // a sign's kind is the sign itself
        static final int OPEN = '(';
        static final int CLOSE = ')';
        static final int TIMES = '*';
        static final int PLUS = '+';
        static final int MINUS = '-';
        static final int STOP = ';';
        static final int LESS = '<';
        static final int EQUAL = '=';
        // the words' kinds, in the order of WORDS; from QUEUE on they may be NAMES as well
        static final int CURVE = 128;
        static final int IS = 129;
        static final int AGAIN = 130;
        static final int ADDS = 131;
        static final int NODE = 132;
        static final int SERVES = 133;
        static final int FLOW = 134;
        static final int SENDS = 135;
        static final int OVER = 136;
        static final int LOSES = 137;
        static final int TICK = 138;
        static final int PUT = 139;
        static final int FIRST_DISCIPLINE = 140;
        static final int LAST_DISCIPLINE = 143;
        static final int NOT = 144;
        static final int AND = 145;
        static final int OR = 146;
        static final int QUEUE = 147;
        static final int HERE = 148;
        static final int WHICH = 149;
        static final int TIME = 150;
        static final String WORDS = "curve is again adds node serves flow sends over loses tick put blind first fifo fair not and or queue here which time ";
        static final int MANY_WORDS = 23;

        private final char[] signs = new char[MOST_SIGNS];
        private final long[] words = new long[MANY_WORDS];
        int length;
        int place;
        private int behind;
        int kind;
        int number;
        long name;
        int fault;

        Tape() {
            int many = 0;
            long code = 0;
            for (int i = 0; i < WORDS.length(); i++) {
                if (WORDS.charAt(i) != ' ') {
                    code = withLetter(code, WORDS.charAt(i));
                } else if (many < MANY_WORDS) {
                    words[many] = code;
                    many++;
                    code = 0;
                }
            }
        }

        /** A WORD as one number: 8 letters of 5 bits. */
        private static long withLetter(long code, char letter) {
            return code * 32 + (letter - 'a' + 1);
        }

        void append(char sign) {
            boolean isSign = sign == 10 || sign >= 32 && sign <= 126;
            if (isSign && length < MOST_SIGNS) {
                signs[length] = sign;
                length++;
            }
        }

        void empty() {
            length = 0;
        }

        void begin() {
            behind = 0;
            fault = 0;
            step();
        }

        void step() {
            place = behind;
            while (place < length && (signs[place] == 10 || signs[place] == ' ')) {
                place++;
            }
            behind = place;
            if (place >= length) {
                kind = END;
            } else if (isLetter(signs[place])) {
                readWord();
            } else if (isDigit(signs[place])) {
                readNumber();
            } else {
                kind = kindOfSign(signs[place]);
                behind = place + 1;
            }
        }

        private static boolean isLetter(char sign) {
            return sign >= 'a' && sign <= 'z';
        }

        private static boolean isDigit(char sign) {
            return sign >= '0' && sign <= '9';
        }

        private void readWord() {
            name = 0;
            while (behind < length && isLetter(signs[behind])) {
                name = withLetter(name, signs[behind]);
                behind++;
            }
            kind = behind - place > MOST_LETTERS ? NOTHING : kindOfWord(name);
        }

        private int kindOfWord(long code) {
            for (int i = 0; i < MANY_WORDS; i++) {
                if (words[i] == code) {
                    return CURVE + i;
                }
            }
            return NAME;
        }

        private void readNumber() {
            number = 0;
            while (behind < length && isDigit(signs[behind])) {
                number = number * 10 + (signs[behind] - '0');
                behind++;
            }
            kind = behind - place > MOST_DIGITS ? NOTHING : NUMBER;
        }

        private static int kindOfSign(int sign) {
            switch (sign) {
                case OPEN:
                case CLOSE:
                case TIMES:
                case PLUS:
                case MINUS:
                case STOP:
                case LESS:
                case EQUAL:
                    return sign;
                default:
                    return NOTHING;
            }
        }

        boolean isName() {
            return kind == NAME || isFact();
        }

        boolean isFact() {
            return kind >= QUEUE && kind <= TIME;
        }

        boolean wrong(int why) {
            fault = why + 16 * place;
            return false;
        }

        boolean take(int wanted) {
            if (kind != wanted) {
                return wrong(CANT_STAND);
            }
            step();
            return true;
        }

        /** Whether a NUMBER from the least to the most stands here; if not, that is the FAULT. */
        boolean hasNumber(int least, int most) {
            if (kind != NUMBER) {
                return wrong(CANT_STAND);
            }
            return number >= least && number <= most || wrong(BAD_NUMBER);
        }
    }

    private static final class NetReader {
        private final Tape tape;
        private final LawReader laws;
        private Net net;

        NetReader(Tape tape, Net net) {
            this.tape = tape;
            this.net = net;
            laws = new LawReader(tape);
        }

        int read(Net into) {
            net = into;
            net.reset();
            tape.begin();
            for (int i = 0; i < MOST_SIGNS && tape.fault == 0 && tape.kind != Tape.END; i++) {
                switch (tape.kind) {
                    case Tape.CURVE:
                        readCurve();
                        break;
                    case Tape.NODE:
                        readNode();
                        break;
                    case Tape.FLOW:
                        readFlow();
                        break;
                    case Tape.LOSES:
                        readLoses();
                        break;
                    default:
                        tape.wrong(CANT_STAND);
                        break;
                }
            }
            return tape.fault;
        }

        private boolean readNewName(long[] names, int at) {
            if (!tape.isName()) {
                return tape.wrong(CANT_STAND);
            }
            if (net.knows(tape.name)) {
                return tape.wrong(TOLD_TWICE);
            }
            names[at] = tape.name;
            tape.step();
            return true;
        }

        private void readCurve() {
            int at = net.curves;
            if (at >= MOST_CURVES) {
                tape.wrong(TOO_MANY);
                return;
            }
            Curve c = net.curve[at];
            tape.step();
            boolean isRight = readNewName(net.curveNames, at) && tape.take(Tape.IS) && readValues(c)
                && tape.take(Tape.AGAIN) && readAgain(c) && tape.take(Tape.ADDS) && readAdds(c)
                && tape.take(Tape.STOP);
            if (isRight) {
                net.curves++;
            }
        }

        private boolean readValues(Curve c) {
            int least = 0;
            for (int i = 0; i <= MOST_VALUES && (i == 0 || tape.kind == Tape.NUMBER); i++) {
                if (!tape.hasNumber(least, MOST_AMOUNT)) {
                    return false;
                }
                if (i >= MOST_VALUES) {
                    return tape.wrong(TOO_MANY);
                }
                least = tape.number;
                c.values[i] = least;
                c.length = i + 1;
                tape.step();
            }
            return true;
        }

        private boolean readAgain(Curve c) {
            if (!tape.hasNumber(1, c.length)) {
                return false;
            }
            c.again = tape.number;
            tape.step();
            return true;
        }

        private boolean readAdds(Curve c) {
            int grown = c.values[c.length - 1] - c.values[c.length - c.again];
            if (!tape.hasNumber(grown, MOST_AMOUNT)) {
                return false;
            }
            c.adds = tape.number;
            tape.step();
            return true;
        }

        private void readNode() {
            int at = net.nodes;
            if (at >= MOST_NODES) {
                tape.wrong(TOO_MANY);
                return;
            }
            tape.step();
            boolean isRight = readNewName(net.nodeNames, at) && readDiscipline(at) && tape.take(Tape.SERVES)
                && readCurveName(net.nodeCurve, at) && tape.take(Tape.STOP);
            if (isRight) {
                net.nodes++;
            }
        }

        private boolean readDiscipline(int at) {
            if (tape.kind < Tape.FIRST_DISCIPLINE || tape.kind > Tape.LAST_DISCIPLINE) {
                return tape.wrong(CANT_STAND);
            }
            net.discipline[at] = tape.kind - Tape.FIRST_DISCIPLINE;
            tape.step();
            return true;
        }

        private boolean readCurveName(int[] curves, int at) {
            if (!tape.isName()) {
                return tape.wrong(CANT_STAND);
            }
            curves[at] = Net.find(net.curveNames, net.curves, tape.name);
            if (curves[at] == NONE) {
                return tape.wrong(NOT_TOLD);
            }
            tape.step();
            return true;
        }

        private void readFlow() {
            int at = net.flows;
            if (at >= MOST_FLOWS) {
                tape.wrong(TOO_MANY);
                return;
            }
            tape.step();
            boolean isRight = readNewName(net.flowNames, at) && tape.take(Tape.SENDS)
                && readCurveName(net.flowCurve, at) && tape.take(Tape.OVER) && readWay(at)
                && tape.take(Tape.STOP);
            if (isRight) {
                net.flows++;
            }
        }

        private boolean readWay(int at) {
            net.hops[at] = 0;
            for (int i = 0; i <= MOST_NODES && (i == 0 || tape.isName()); i++) {
                if (!readHop(at)) {
                    return false;
                }
            }
            return true;
        }

        private boolean readHop(int at) {
            if (!tape.isName()) {
                return tape.wrong(CANT_STAND);
            }
            int node = Net.find(net.nodeNames, net.nodes, tape.name);
            if (node == NONE) {
                return tape.wrong(NOT_TOLD);
            }
            // no NODE twice: so there is room on the way for each that comes this far
            if (net.hopAt(at, node) != NONE || net.hops[at] >= MOST_NODES) {
                return tape.wrong(TOLD_TWICE);
            }
            net.way[at][net.hops[at]] = node;
            net.hops[at]++;
            net.over[node] |= 1 << at;
            tape.step();
            return true;
        }

        private void readLoses() {
            if (net.hasLaw) {
                tape.wrong(TOLD_TWICE);
                return;
            }
            net.hasLaw = true;
            tape.step();
            if (laws.readPairs(net.law, Law.WEAKEST, 0)) {
                tape.take(Tape.STOP);
            }
        }
    }

    /** E by the strength of its signs: and, or bind least, * most. */
    private static final class LawReader {
        private final Tape tape;

        LawReader(Tape tape) {
            this.tape = tape;
        }

        /** Reads what signs of that strength and stronger ones hold together, within so many of not and ( ). */
        boolean readPairs(Law law, int strength, int depth) {
            if (strength > Law.STRONGEST) {
                return readPart(law, depth);
            }
            if (!readPairs(law, strength + 1, depth)) {
                return false;
            }
            // a TEST holds one < or = at most
            int most = strength == Law.TEST ? 1 : MOST_SIGNS;
            for (int i = 0; i < most && Law.strengthOf(tape.kind) == strength; i++) {
                int sign = tape.kind;
                tape.step();
                if (!readPairs(law, strength + 1, depth)) {
                    return false;
                }
                law.add(-sign);
            }
            return true;
        }

        private boolean readPart(Law law, int depth) {
            int kind = tape.kind;
            boolean isLeaf = kind == Tape.NUMBER || tape.isFact();
            if (!isLeaf && kind != Tape.NOT && kind != Tape.OPEN) {
                return tape.wrong(CANT_STAND);
            }
            if (depth >= MOST_DEPTH) {
                return tape.wrong(TOO_MANY);
            }
            int leaf = kind == Tape.NUMBER ? tape.number : -kind;
            tape.step();
            if (isLeaf) {
                law.add(leaf);
                return true;
            }
            if (kind == Tape.OPEN) {
                if (!readPairs(law, Law.WEAKEST, depth + 1)) {
                    return false;
                }
                if (tape.kind != Tape.CLOSE) {
                    return tape.wrong(CANT_STAND);
                }
                tape.step();
                return true;
            }
            if (!readPart(law, depth + 1)) {
                return false;
            }
            law.add(-Tape.NOT);
            return true;
        }
    }

    /** The RUN: of each line the FLOW that is PUT, NONE for a tick. */
    private static final class Script {
        final int[] flow = new int[MOST_LINES];
        final int[] many = new int[MOST_LINES];
        int lines;

        int read(Tape tape, Net net) {
            lines = 0;
            tape.begin();
            for (int i = 0; i <= MOST_LINES && tape.kind != Tape.END; i++) {
                if (!readLine(tape, net)) {
                    return tape.fault;
                }
            }
            return 0;
        }

        private boolean readLine(Tape tape, Net net) {
            int kind = tape.kind;
            if (kind != Tape.TICK && kind != Tape.PUT) {
                return tape.wrong(CANT_STAND);
            }
            if (lines >= MOST_LINES) {
                return tape.wrong(TOO_MANY);
            }
            tape.step();
            flow[lines] = NONE;
            if (kind == Tape.PUT && !readPut(tape, net)) {
                return false;
            }
            if (!tape.take(Tape.STOP)) {
                return false;
            }
            lines++;
            return true;
        }

        private boolean readPut(Tape tape, Net net) {
            if (!tape.isName()) {
                return tape.wrong(CANT_STAND);
            }
            flow[lines] = Net.find(net.flowNames, net.flows, tape.name);
            if (flow[lines] == NONE) {
                return tape.wrong(NOT_TOLD);
            }
            tape.step();
            if (!tape.hasNumber(1, MOST_PUT)) {
                return false;
            }
            many[lines] = tape.number;
            tape.step();
            return true;
        }
    }

    /** The DELAYS of a NET, one NODE of which may serve by another CURVE than told. */
    private static final class Settling {
        final int[][] delays = new int[MOST_FLOWS][MOST_NODES];
        private final int[][] anew = new int[MOST_FLOWS][MOST_NODES];
        /** What ARRIVES, by NODE * MOST_FLOWS + FLOW; 0 where that FLOW does not go. */
        private final int[][] arriving = new int[MOST_NODES * MOST_FLOWS][REACH + 1];
        private final int[][] serving = new int[MOST_NODES][REACH + 1];
        private final int[] coming = new int[REACH + 1];
        private final int[] rest = new int[REACH + 1];
        private Net net;
        private boolean isAsTold;
        int rounds;

        Settling(Net net) {
            this.net = net;
        }

        void forget() {
            isAsTold = false;
        }

        /** All here leans on the NET alone: it is settled anew only if it was not yet, or a try came between. */
        int roundsAsTold(Net told) {
            if (!isAsTold) {
                settle(told, NONE, NONE);
                isAsTold = true;
            }
            return rounds;
        }

        void settle(Net told, int changedNode, int changedCurve) {
            net = told;
            isAsTold = false;
            rounds = NONE;
            clear();
            for (int node = 0; node < net.nodes; node++) {
                net.curve[node == changedNode ? changedCurve : net.nodeCurve[node]].fill(serving[node], 0);
            }
            for (int round = 1; round <= MOST_ROUNDS; round++) {
                fillArriving();
                if (!tellAnew()) {
                    return;
                }
                if (!takeAnew()) {
                    rounds = round;
                    return;
                }
            }
        }

        private void clear() {
            for (int flow = 0; flow < MOST_FLOWS; flow++) {
                for (int hop = 0; hop < MOST_NODES; hop++) {
                    delays[flow][hop] = 0;
                }
            }
            for (int i = 0; i < arriving.length; i++) {
                for (int t = 0; t <= REACH; t++) {
                    arriving[i][t] = 0;
                }
            }
        }

        private void fillArriving() {
            for (int flow = 0; flow < net.flows; flow++) {
                int ahead = 0;
                for (int hop = 0; hop < net.hops[flow]; hop++) {
                    int row = net.way[flow][hop] * MOST_FLOWS + flow;
                    net.curve[net.flowCurve[flow]].fill(arriving[row], ahead);
                    ahead += delays[flow][hop];
                }
            }
        }

        private boolean tellAnew() {
            for (int flow = 0; flow < net.flows; flow++) {
                for (int hop = 0; hop < net.hops[flow]; hop++) {
                    anew[flow][hop] = delayAt(flow, net.way[flow][hop]);
                    if (anew[flow][hop] == NONE) {
                        return false;
                    }
                }
            }
            return true;
        }

        private boolean takeAnew() {
            boolean changed = false;
            for (int flow = 0; flow < net.flows; flow++) {
                for (int hop = 0; hop < net.hops[flow]; hop++) {
                    changed = changed || delays[flow][hop] != anew[flow][hop];
                    delays[flow][hop] = anew[flow][hop];
                }
            }
            return changed;
        }

        private int delayAt(int flow, int node) {
            if (net.discipline[node] == FIFO) {
                fillComing(node, coming);
                return lateness(coming, serving[node]);
            }
            fillLeft(flow, node, rest);
            return lateness(arriving[node * MOST_FLOWS + flow], rest);
        }

        int arrivingAt(int flow, int node, int t) {
            return arriving[node * MOST_FLOWS + flow][t];
        }

        void fillComing(int node, int[] row) {
            for (int t = 0; t <= REACH; t++) {
                row[t] = comingOf(net.flows, NONE, node, t);
            }
        }

        /** What ARRIVES of all FLOWS with a number below that, but one. */
        private int comingOf(int below, int but, int node, int t) {
            int sum = 0;
            for (int flow = 0; flow < below; flow++) {
                if (flow != but) {
                    sum += arriving[node * MOST_FLOWS + flow][t];
                }
            }
            return sum;
        }

        void fillLeft(int flow, int node, int[] row) {
            int discipline = net.discipline[node];
            int sharers = discipline == FAIR ? Math.max(1, Integer.bitCount(net.over[node])) : 1;
            int below = discipline == FIRST ? flow : net.flows;
            int most = 0;
            for (int t = 0; t <= REACH; t++) {
                if (discipline == FIFO || discipline == FAIR) {
                    row[t] = serving[node][t] / sharers;
                } else {
                    most = Math.max(most, serving[node][t] - comingOf(below, flow, node, t));
                    row[t] = most;
                }
            }
        }

        int totalOf(int flow) {
            int sum = 0;
            for (int hop = 0; hop < net.hops[flow]; hop++) {
                sum += delays[flow][hop];
            }
            return sum;
        }
    }

    /** UNITS and all that came of them. A UNIT is FLOW * BIRTHS + when it was BORN. */
    private static final class Traffic {
        private static final int BIRTHS = 64;
        private static final long DRAW_FACTOR = 1103515245L;
        private static final long DRAW_MORE = 12345L;
        private static final long DRAW_MODULUS = 2147483648L;

        private final int[][] queue = new int[MOST_NODES][MOST_UNITS];
        private final int[][] served = new int[MOST_NODES][MOST_UNITS];
        private final int[][] putAt = new int[MOST_FLOWS][LAST_TIME + 1];
        final int[] queued = new int[MOST_NODES];
        final int[] busy = new int[MOST_NODES];
        final int[] gone = new int[MOST_FLOWS];
        final int[] lost = new int[MOST_FLOWS];
        final int[] latest = new int[MOST_FLOWS];
        private final int[] servedMany = new int[MOST_NODES];
        private long drawn;
        int time;

        Traffic() {
            for (int flow = 0; flow < MOST_FLOWS; flow++) {
                latest[flow] = NONE;
            }
        }

        void reset() {
            time = 0;
            for (int node = 0; node < MOST_NODES; node++) {
                queued[node] = 0;
                busy[node] = 0;
            }
            for (int flow = 0; flow < MOST_FLOWS; flow++) {
                gone[flow] = 0;
                lost[flow] = 0;
                latest[flow] = NONE;
                for (int t = 0; t <= LAST_TIME; t++) {
                    putAt[flow][t] = 0;
                }
            }
        }

        void copy(Traffic from) {
            time = from.time;
            for (int node = 0; node < MOST_NODES; node++) {
                queued[node] = from.queued[node];
                busy[node] = from.busy[node];
                System.arraycopy(from.queue[node], 0, queue[node], 0, MOST_UNITS);
            }
            for (int flow = 0; flow < MOST_FLOWS; flow++) {
                gone[flow] = from.gone[flow];
                lost[flow] = from.lost[flow];
                latest[flow] = from.latest[flow];
                System.arraycopy(from.putAt[flow], 0, putAt[flow], 0, LAST_TIME + 1);
            }
        }

        static int sum(int[] row) {
            int sum = 0;
            for (int i = 0; i < row.length; i++) {
                sum += row[i];
            }
            return sum;
        }

        int latestOfAll() {
            int most = NONE;
            for (int flow = 0; flow < MOST_FLOWS; flow++) {
                most = Math.max(most, latest[flow]);
            }
            return most;
        }

        int unitsOf(int flow) {
            int many = 0;
            for (int node = 0; node < MOST_NODES; node++) {
                for (int i = 0; i < queued[node]; i++) {
                    if (queue[node][i] / BIRTHS == flow) {
                        many++;
                    }
                }
            }
            return many;
        }

        int oldestOf(int flow) {
            int oldest = NONE;
            for (int node = 0; node < MOST_NODES; node++) {
                for (int i = 0; i < queued[node]; i++) {
                    int born = queue[node][i] % BIRTHS;
                    if (queue[node][i] / BIRTHS == flow && (oldest == NONE || born < oldest)) {
                        oldest = born;
                    }
                }
            }
            return oldest;
        }

        /** PUT: how many are not LOST, or NONE. */
        int admit(Net net, int flow, int many) {
            if (time >= LAST_TIME || sum(queued) + many > MOST_UNITS) {
                return NONE;
            }
            int first = net.way[flow][0];
            int kept = 0;
            putAt[flow][time] += many;
            for (int i = 0; i < many; i++) {
                if (net.law.worth(queued[first], sum(queued), flow, time) != 0) {
                    lost[flow]++;
                } else {
                    bringTo(first, flow * BIRTHS + time);
                    kept++;
                }
            }
            return kept;
        }

        private void bringTo(int node, int unit) {
            int at = queued[node];
            if (at < MOST_UNITS) {
                queue[node][at] = unit;
                queued[node] = at + 1;
            }
        }

        private void takeOut(int node, int place) {
            for (int i = place + 1; i < queued[node]; i++) {
                queue[node][i - 1] = queue[node][i];
            }
            queued[node]--;
        }

        /** TICK: how many are GONE by it, or NONE. */
        int passOn(Net net) {
            if (time >= LAST_TIME) {
                return NONE;
            }
            // all are served before any comes on, for what comes now is not served now
            for (int node = 0; node < net.nodes; node++) {
                serveAt(net, node);
            }
            time++;
            int leaving = 0;
            for (int node = 0; node < net.nodes; node++) {
                for (int i = 0; i < servedMany[node]; i++) {
                    leaving += sendOn(net, node, served[node][i]);
                }
            }
            return leaving;
        }

        private void serveAt(Net net, int node) {
            int many = Math.min(queued[node], quota(net, node));
            int turn = NONE;
            servedMany[node] = many;
            busy[node] = many < queued[node] ? busy[node] + 1 : 0;
            for (int i = 0; i < many; i++) {
                int place = nextPlace(net.discipline[node], node, turn);
                served[node][i] = queue[node][place];
                turn = served[node][i] / BIRTHS;
                takeOut(node, place);
            }
        }

        private int quota(Net net, int node) {
            Curve c = net.curve[net.nodeCurve[node]];
            return c.at(busy[node] + 1) - c.at(busy[node]);
        }

        /**
         * Where the UNIT stands that is served next, behind one of the FLOW whose turn it was (NONE: none was). It is
         * asked for only where UNITS are; 0 at least, so that it is a place in any case.
         */
        private int nextPlace(int discipline, int node, int turn) {
            int place = 0;
            if (discipline == BLIND) {
                place = queued[node] - 1;
            } else if (discipline == FIRST) {
                place = firstPlaceAbove(node, NONE);
            } else if (discipline == FAIR) {
                place = firstPlaceAbove(node, turn);
                if (place == NONE) {
                    place = firstPlaceAbove(node, NONE);
                }
            }
            return Math.max(0, place);
        }

        /** The first UNIT of the FLOW with the least number above that one; NONE: there is none. */
        private int firstPlaceAbove(int node, int flow) {
            int best = NONE;
            int least = MOST_FLOWS;
            for (int i = 0; i < queued[node]; i++) {
                int its = queue[node][i] / BIRTHS;
                if (its > flow && its < least) {
                    best = i;
                    least = its;
                }
            }
            return best;
        }

        private int sendOn(Net net, int node, int unit) {
            int flow = unit / BIRTHS;
            int next = net.hopAt(flow, node) + 1;
            if (next < net.hops[flow]) {
                bringTo(net.way[flow][next], unit);
                return 0;
            }
            gone[flow]++;
            latest[flow] = Math.max(latest[flow], time - unit % BIRTHS);
            return 1;
        }

        int servedFirst(Net net, int node) {
            if (queued[node] == 0 || quota(net, node) <= 0) {
                return NONE;
            }
            return queue[node][nextPlace(net.discipline[node], node, NONE)] / BIRTHS;
        }

        boolean keepsTo(Curve c, int flow) {
            for (int from = 0; from <= time; from++) {
                int many = 0;
                for (int t = from; t <= time; t++) {
                    many += putAt[flow][t];
                    if (many > c.at(t + 1 - from)) {
                        return false;
                    }
                }
            }
            return true;
        }

        /** The RUN from the begin: the first line that can't be, or NONE. */
        int play(Net net, Script script) {
            reset();
            int cant = NONE;
            for (int line = 0; line < script.lines; line++) {
                boolean isTick = script.flow[line] == NONE;
                int done = isTick ? passOn(net) : admit(net, script.flow[line], script.many[line]);
                if (done == NONE && cant == NONE) {
                    cant = line;
                }
            }
            return cant;
        }

        /** How many are GONE in these TICKS. */
        int playDraws(Net net, int seed, int ticks) {
            drawn = seed;
            int leaving = 0;
            for (int i = 0; i < ticks && time < LAST_TIME; i++) {
                if (net.flows > 0) {
                    int flow = draw(net.flows);
                    int many = draw(4);
                    if (many > 0) {
                        admit(net, flow, many);
                    }
                }
                leaving += passOn(net);
            }
            return leaving;
        }

        private int draw(int below) {
            drawn = (drawn * DRAW_FACTOR + DRAW_MORE) % DRAW_MODULUS;
            return below > 0 ? (int) (drawn / 65536L % below) : 0;
        }
    }

    /** What was SEEN of the unknown CURVE. */
    private static final class Sightings {
        private final int[] at = new int[MOST_SEEN];
        private final int[] much = new int[MOST_SEEN];
        private final boolean[] more = new boolean[MOST_SEEN];
        int many;

        boolean add(int t, int bound, boolean orMore) {
            if (many >= MOST_SEEN) {
                return false;
            }
            at[many] = t;
            much[many] = bound;
            more[many] = orMore;
            many++;
            return true;
        }

        void copy(Sightings from) {
            many = from.many;
            for (int i = 0; i < MOST_SEEN; i++) {
                at[i] = from.at[i];
                much[i] = from.much[i];
                more[i] = from.more[i];
            }
        }

        boolean suits(Curve c) {
            for (int i = 0; i < many; i++) {
                boolean isMore = c.at(at[i]) >= much[i];
                if (isMore != more[i]) {
                    return false;
                }
            }
            return true;
        }
    }
}
