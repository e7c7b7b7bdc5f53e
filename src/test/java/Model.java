import java.util.ArrayList;
import java.util.Arrays;
import java.util.HashMap;
import java.util.List;
import java.util.Map;
import java.util.NoSuchElementException;

/**
 * The document's words, taken as slowly and literally as they stand, to hold the class against: no rows, no
 * keeping, curves by their recursion, LATE by trying each d.
 */
public final class Model {
    static final int NONE = -1;

    static final List<String> RESERVED = Arrays.asList("curve", "is", "again", "adds", "node", "serves", "flow",
        "sends", "over", "loses", "tick", "put", "blind", "first", "fifo", "fair", "not", "and", "or");
    static final List<String> KINDS = Arrays.asList("blind", "first", "fifo", "fair");
    static final List<String> FACTS = Arrays.asList("queue", "here", "which", "time");

    static final class Fault extends RuntimeException {
        private static final long serialVersionUID = 1L;
        final int code;
        Fault(int kind, int place) { code = kind + 16 * place; }
    }

    static final class Token {
        final String text; final int place; final char sort;
        Token(String text, int place, char sort) { this.text = text; this.place = place; this.sort = sort; }
        boolean is(String other) { return (sort == 'w' || sort == 's') && text.equals(other); }
        boolean isName() { return sort == 'w' && !RESERVED.contains(text); }
        int number() { return Integer.parseInt(text); }
    }

    static final class MCurve {
        final List<Integer> values = new ArrayList<>(); int again, adds;
        private final Map<Integer, Integer> known = new HashMap<>();
        int at(int t) {
            if (t < values.size()) { return values.get(t); }
            Integer is = known.get(t);
            if (is == null) { is = at(t - again) + adds; known.put(t, is); }
            return is;
        }
    }

    interface E { int of(int queue, int here, int which, int time); }

    static final class MNode { int kind; int curve; }
    static final class MFlow { int curve; final List<Integer> way = new ArrayList<>(); }

    static final class MNet {
        final List<MCurve> curves = new ArrayList<>();
        final List<MNode> nodes = new ArrayList<>();
        final List<MFlow> flows = new ArrayList<>();
        final Map<String, int[]> names = new HashMap<>();
        E loses;
        int named(String name, int sort) {
            int[] is = names.get(name);
            return is == null || is[0] != sort ? NONE : is[1];
        }
    }

    static final class Unit {
        final int flow, born;
        Unit(int flow, int born) { this.flow = flow; this.born = born; }
    }

    static final class World {
        int time;
        final List<List<Unit>> at = new ArrayList<>();
        final int[] busy = new int[4], gone = new int[4], lost = new int[4], latest = {-1, -1, -1, -1};
        final List<int[]> puts = new ArrayList<>();
        final List<int[]> seen = new ArrayList<>();
        World() { for (int i = 0; i < 4; i++) { at.add(new ArrayList<>()); } }
        World copy() {
            World w = new World();
            w.time = time;
            for (int i = 0; i < 4; i++) {
                w.at.get(i).addAll(at.get(i));
                w.busy[i] = busy[i]; w.gone[i] = gone[i]; w.lost[i] = lost[i]; w.latest[i] = latest[i];
            }
            w.puts.addAll(puts); w.seen.addAll(seen);
            return w;
        }
        int units() { int n = 0; for (List<Unit> q : at) { n += q.size(); } return n; }
        int worst() { int m = -1; for (int l : latest) { m = Math.max(m, l); } return m; }
    }

    private final StringBuilder tape = new StringBuilder();
    private MNet net = new MNet();
    private List<int[]> script = new ArrayList<>();
    private World world = new World();
    private final World[] marks = new World[2];

    // ---- reading ----

    static List<Token> tokens(String text) {
        List<Token> all = new ArrayList<>();
        int i = 0;
        while (i < text.length()) {
            char c = text.charAt(i);
            int j = i;
            if (c == 10 || c == 32) { i++; continue; }
            if (c >= 'a' && c <= 'z') {
                while (j < text.length() && text.charAt(j) >= 'a' && text.charAt(j) <= 'z') { j++; }
                all.add(new Token(text.substring(i, j), i, j - i <= 8 ? 'w' : '?'));
            } else if (c >= '0' && c <= '9') {
                while (j < text.length() && text.charAt(j) >= '0' && text.charAt(j) <= '9') { j++; }
                all.add(new Token(text.substring(i, j), i, j - i <= 4 ? 'n' : '?'));
            } else {
                j++;
                all.add(new Token("" + c, i, "()<=+-*;".indexOf(c) >= 0 ? 's' : '?'));
            }
            i = j;
        }
        all.add(new Token("", text.length(), 'e'));
        return all;
    }

    static final class Parser {
        final List<Token> tokens; int i = 0;
        Parser(String text) { tokens = tokens(text); }
        Token peek() { return tokens.get(i); }
        Token next() { Token t = tokens.get(i); if (t.sort != 'e') { i++; } return t; }
        void want(String word) { if (!peek().is(word)) { throw fault(1); } next(); }
        Fault fault(int kind) { return new Fault(kind, peek().place); }
        boolean atEnd() { return peek().sort == 'e'; }
        void wantNumber() { if (peek().sort != 'n') { throw fault(1); } }
        void wantName() { if (!peek().isName()) { throw fault(1); } }

        E law(int within) {
            E a = test(within);
            while (peek().is("and") || peek().is("or")) {
                boolean and = next().is("and");
                E l = a, r = test(within);
                a = and ? (q, h, w, t) -> l.of(q, h, w, t) != 0 && r.of(q, h, w, t) != 0 ? 1 : 0
                    : (q, h, w, t) -> l.of(q, h, w, t) != 0 || r.of(q, h, w, t) != 0 ? 1 : 0;
            }
            return a;
        }
        E test(int within) {
            E l = sum(within);
            if (peek().is("<")) { next(); E r = sum(within); return (q, h, w, t) -> l.of(q, h, w, t) < r.of(q, h, w, t) ? 1 : 0; }
            if (peek().is("=")) { next(); E r = sum(within); return (q, h, w, t) -> l.of(q, h, w, t) == r.of(q, h, w, t) ? 1 : 0; }
            return l;
        }
        E sum(int within) {
            E a = product(within);
            while (peek().is("+") || peek().is("-")) {
                boolean plus = next().is("+");
                E l = a, r = product(within);
                a = plus ? (q, h, w, t) -> l.of(q, h, w, t) + r.of(q, h, w, t) : (q, h, w, t) -> l.of(q, h, w, t) - r.of(q, h, w, t);
            }
            return a;
        }
        E product(int within) {
            E a = part(within);
            while (peek().is("*")) { next(); E l = a, r = part(within); a = (q, h, w, t) -> l.of(q, h, w, t) * r.of(q, h, w, t); }
            return a;
        }
        E part(int within) {
            Token k = peek();
            boolean fact = k.sort == 'w' && FACTS.contains(k.text);
            if (k.sort != 'n' && !fact && !k.is("not") && !k.is("(")) { throw fault(1); }
            if (within == 5) { throw fault(5); }
            next();
            if (k.sort == 'n') { int n = k.number(); return (q, h, w, t) -> n; }
            if (fact) { int f = FACTS.indexOf(k.text); return (q, h, w, t) -> new int[] {q, h, w, t}[f]; }
            if (k.is("not")) { E p = part(within + 1); return (q, h, w, t) -> p.of(q, h, w, t) == 0 ? 1 : 0; }
            E p = law(within + 1);
            want(")");
            return p;
        }
    }

    static String newName(Parser p, MNet n) {
        p.wantName();
        if (n.names.containsKey(p.peek().text)) { throw p.fault(3); }
        return p.next().text;
    }

    static int oldName(Parser p, MNet n, int sort) {
        p.wantName();
        if (n.named(p.peek().text, sort) == NONE) { throw p.fault(2); }
        return n.named(p.next().text, sort);
    }

    static MNet parseNet(String text) {
        MNet n = new MNet();
        Parser p = new Parser(text);
        while (!p.atEnd()) {
            if (p.peek().is("curve")) { parseCurve(p, n); }
            else if (p.peek().is("node")) { parseNode(p, n); }
            else if (p.peek().is("flow")) { parseFlow(p, n); }
            else if (p.peek().is("loses")) {
                if (n.loses != null) { throw p.fault(3); }
                p.next();
                n.loses = p.law(0);
                p.want(";");
            } else { throw p.fault(1); }
        }
        return n;
    }

    static void parseCurve(Parser p, MNet n) {
        if (n.curves.size() == 6) { throw p.fault(5); }
        p.next();
        String name = newName(p, n);
        p.want("is");
        MCurve c = new MCurve();
        p.wantNumber();
        while (p.peek().sort == 'n') {
            int v = p.peek().number(), size = c.values.size();
            if (v > 99 || size > 0 && v < c.values.get(size - 1)) { throw p.fault(4); }
            if (size == 8) { throw p.fault(5); }
            c.values.add(v);
            p.next();
        }
        p.want("again");
        p.wantNumber();
        c.again = p.peek().number();
        int size = c.values.size();
        if (c.again < 1 || c.again > size) { throw p.fault(4); }
        p.next();
        p.want("adds");
        p.wantNumber();
        c.adds = p.peek().number();
        if (c.adds > 99 || c.adds < c.values.get(size - 1) - c.values.get(size - c.again)) { throw p.fault(4); }
        p.next();
        p.want(";");
        n.names.put(name, new int[] {0, n.curves.size()});
        n.curves.add(c);
    }

    static void parseNode(Parser p, MNet n) {
        if (n.nodes.size() == 4) { throw p.fault(5); }
        p.next();
        String name = newName(p, n);
        MNode node = new MNode();
        if (p.peek().sort != 'w' || !KINDS.contains(p.peek().text)) { throw p.fault(1); }
        node.kind = KINDS.indexOf(p.next().text);
        p.want("serves");
        node.curve = oldName(p, n, 0);
        p.want(";");
        n.names.put(name, new int[] {1, n.nodes.size()});
        n.nodes.add(node);
    }

    static void parseFlow(Parser p, MNet n) {
        if (n.flows.size() == 4) { throw p.fault(5); }
        p.next();
        String name = newName(p, n);
        MFlow flow = new MFlow();
        p.want("sends");
        flow.curve = oldName(p, n, 0);
        p.want("over");
        p.wantName();
        while (p.peek().isName()) {
            int at = p.i, node = oldName(p, n, 1);
            if (flow.way.contains(node)) { throw new Fault(3, p.tokens.get(at).place); }
            flow.way.add(node);
        }
        p.want(";");
        n.names.put(name, new int[] {2, n.flows.size()});
        n.flows.add(flow);
    }

    static List<int[]> parseRun(String text, MNet n) {
        List<int[]> lines = new ArrayList<>();
        Parser p = new Parser(text);
        while (!p.atEnd()) {
            if (!p.peek().is("tick") && !p.peek().is("put")) { throw p.fault(1); }
            if (lines.size() == 40) { throw p.fault(5); }
            if (p.next().is("tick")) { lines.add(new int[0]); }
            else {
                int flow = oldName(p, n, 2);
                p.wantNumber();
                int many = p.peek().number();
                if (many < 1 || many > 9) { throw p.fault(4); }
                p.next();
                lines.add(new int[] {flow, many});
            }
            p.want(";");
        }
        return lines;
    }

    public int feed(long a, long b, long c) {
        for (long x : new long[] {a, b, c}) {
            for (int i = 7; i >= 0; i--) {
                int s = (int) (x >> (8 * i)) & 0xff;
                if ((s == 10 || s >= 32 && s <= 126) && tape.length() < 1000) { tape.append((char) s); }
            }
        }
        return tape.length();
    }

    private String taken() { String t = tape.toString(); tape.setLength(0); return t; }

    public int net() {
        try {
            net = parseNet(taken());
        } catch (Fault f) { return f.code; }
        world = new World();
        script = new ArrayList<>();
        marks[0] = null; marks[1] = null;
        return 0;
    }

    public int run() {
        try { script = parseRun(taken(), net); } catch (Fault f) { return f.code; }
        return 0;
    }

    // ---- curves ----

    private boolean isC(int c) { return c >= 0 && c < net.curves.size(); }
    private boolean isN(int n) { return n >= 0 && n < net.nodes.size(); }
    private boolean isF(int f) { return f >= 0 && f < net.flows.size(); }
    private boolean isH(int f, int h) { return isF(f) && h >= 0 && h < net.flows.get(f).way.size(); }
    private MCurve c(int i) { return net.curves.get(i); }

    public int curve(int i, int what) {
        if (!isC(i)) { return NONE; }
        MCurve c = c(i);
        if (what == 0) { return c.values.size(); }
        if (what == 1) { return c.again; }
        if (what == 2) { return c.adds; }
        if (what == 3) { return c.adds * 1000 / c.again; }
        if (what != 4) { return NONE; }
        int[] steps = new int[61];
        for (int t = 0; t <= 60; t++) { steps[t] = c.at(t + 1) - c.at(t); }
        int bends = 3;
        for (int t = 1; t <= 60; t++) {
            if (steps[t] > steps[t - 1]) { bends &= ~1; }
            if (steps[t] < steps[t - 1]) { bends &= ~2; }
        }
        return bends;
    }

    public int node(int i, int what) {
        if (!isN(i)) { return NONE; }
        if (what == 0) { return net.nodes.get(i).kind; }
        if (what == 1) { return net.nodes.get(i).curve; }
        if (what == 2) { int b = 0; for (int f = 0; f < net.flows.size(); f++) { if (net.flows.get(f).way.contains(i)) { b += 1 << f; } } return b; }
        if (what == 3) { return world.at.get(i).size(); }
        return what == 4 ? world.busy[i] : NONE;
    }

    public int flow(int i, int what) {
        if (!isF(i)) { return NONE; }
        if (what == 0) { return net.flows.get(i).curve; }
        if (what == 1) { return net.flows.get(i).way.size(); }
        if (what == 2) { int n = 0; for (List<Unit> q : world.at) { for (Unit u : q) { if (u.flow == i) { n++; } } } return n; }
        if (what == 3) { return world.gone[i]; }
        return what == 4 ? world.lost[i] : NONE;
    }

    public int way(int f, int h) { return isH(f, h) ? net.flows.get(f).way.get(h) : NONE; }

    public int value(int i, int t) { return isC(i) && t >= 0 && t <= 120 ? c(i).at(t) : NONE; }

    public int fold(int a, int b, int t) {
        if (!isC(a) || !isC(b) || t < 0 || t > 120) { return NONE; }
        int least = Integer.MAX_VALUE;
        for (int s = 0; s <= t; s++) { least = Math.min(least, c(a).at(s) + c(b).at(t - s)); }
        return least;
    }

    public int unfold(int a, int b, int t) {
        if (!isC(a) || !isC(b) || t < 0 || t > 60) { throw new NoSuchElementException(); }
        int most = Integer.MIN_VALUE;
        for (int s = 0; s <= 60; s++) { most = Math.max(most, c(a).at(t + s) - c(b).at(s)); }
        return most;
    }

    public int star(int i, int t) {
        if (!isC(i) || t < 0 || t > 60) { return NONE; }
        int[] star = new int[61];
        for (int u = 1; u <= 60; u++) {
            star[u] = c(i).at(u);
            for (int s = 1; s <= u - 1; s++) { star[u] = Math.min(star[u], star[s] + star[u - s]); }
        }
        return star[t];
    }

    public boolean sub(int i) {
        if (!isC(i)) { return false; }
        for (int s = 1; s <= 60; s++) {
            for (int t = 1; s + t <= 60; t++) { if (c(i).at(s) + c(i).at(t) < c(i).at(s + t)) { return false; } }
        }
        return true;
    }

    interface Line { int at(int t); }

    static int lateOf(Line a, Line b) {
        for (int d = 0; d <= 60; d++) {
            boolean fine = true;
            for (int t = 0; t <= 60 && fine; t++) { fine = a.at(t) <= b.at(t + d); }
            if (fine) { return d; }
        }
        return NONE;
    }

    static int behindOf(Line a, Line b) {
        int most = Integer.MIN_VALUE;
        for (int t = 0; t <= 60; t++) { most = Math.max(most, a.at(t) - b.at(t)); }
        return most;
    }

    public int late(int a, int b) { return isC(a) && isC(b) ? lateOf(t -> c(a).at(t), t -> c(b).at(t)) : NONE; }

    public int behind(int a, int b) {
        if (!isC(a) || !isC(b)) { throw new NoSuchElementException(); }
        return behindOf(t -> c(a).at(t), t -> c(b).at(t));
    }

    public int above(int a, int b) {
        for (int t = 0; isC(a) && isC(b) && t <= 60; t++) { if (c(a).at(t) > c(b).at(t)) { return t; } }
        return NONE;
    }

    // ---- settling ----

    final class Settled {
        final int[] serves = new int[net.nodes.size()];
        int[][] d = new int[4][4];
        int rounds = NONE;

        Settled(int node, int curve) {
            for (int i = 0; i < serves.length; i++) { serves[i] = i == node ? curve : net.nodes.get(i).curve; }
            for (int round = 1; round <= 60; round++) {
                int[][] anew = new int[4][4];
                for (int f = 0; f < net.flows.size(); f++) {
                    for (int h = 0; h < net.flows.get(f).way.size(); h++) {
                        anew[f][h] = delay(f, h);
                        if (anew[f][h] == NONE) { return; }
                    }
                }
                boolean same = Arrays.deepEquals(anew, d);
                d = anew;
                if (same) { rounds = round; return; }
            }
        }

        int arrives(int f, int h, int t) {
            int ahead = 0;
            for (int k = 0; k < h; k++) { ahead += d[f][k]; }
            return c(net.flows.get(f).curve).at(t + ahead);
        }

        int comes(int node, int t) {
            int sum = 0;
            for (int f = 0; f < net.flows.size(); f++) {
                int h = net.flows.get(f).way.indexOf(node);
                if (h >= 0) { sum += arrives(f, h, t); }
            }
            return sum;
        }

        int left(int f, int h, int t) {
            int node = net.flows.get(f).way.get(h), kind = net.nodes.get(node).kind;
            MCurve s = c(serves[node]);
            if (kind == 2) { return s.at(t); }
            if (kind == 3) { return s.at(t) / Integer.bitCount(node(node, 2)); }
            int most = 0;
            for (int u = 0; u <= t; u++) {
                int others = 0;
                for (int g = 0; g < net.flows.size(); g++) {
                    int hop = net.flows.get(g).way.indexOf(node);
                    if (g != f && hop >= 0 && (kind == 0 || g < f)) { others += arrives(g, hop, u); }
                }
                most = Math.max(most, s.at(u) - others);
            }
            return most;
        }

        int delay(int f, int h) {
            int node = net.flows.get(f).way.get(h);
            if (net.nodes.get(node).kind == 2) { return lateOf(row(t -> comes(node, t)), t -> c(serves[node]).at(t)); }
            return lateOf(t -> arrives(f, h, t), row(t -> left(f, h, t)));
        }

        /** The same line, told once. */
        Line row(Line line) {
            int[] r = new int[121];
            for (int t = 0; t <= 120; t++) { r[t] = line.at(t); }
            return t -> r[t];
        }

        int total(int f) { int s = 0; for (int x : d[f]) { s += x; } return s; }

        int once(int f) {
            int fifo = 0;
            Line folded = null;
            for (int h = 0; h < net.flows.get(f).way.size(); h++) {
                int hop = h;
                if (net.nodes.get(net.flows.get(f).way.get(h)).kind == 2) { fifo += d[f][h]; continue; }
                Line next = row(t -> left(f, hop, t));
                if (folded == null) { folded = next; continue; }
                Line before = folded;
                folded = row(t -> {
                    int least = Integer.MAX_VALUE;
                    for (int s = 0; s <= t; s++) { least = Math.min(least, before.at(s) + next.at(t - s)); }
                    return least;
                });
            }
            int late = folded == null ? 0 : lateOf(t -> c(net.flows.get(f).curve).at(t), folded);
            return late == NONE ? NONE : late + fifo;
        }
    }

    private MNet settledOf;
    private Settled settled;

    private Settled told() {
        if (settledOf != net) { settled = new Settled(NONE, NONE); settledOf = net; }
        return settled;
    }

    public int rounds() { return told().rounds; }
    private boolean diverges() { return told().rounds == NONE; }
    public int delay(int f, int h) { return isH(f, h) && !diverges() ? told().d[f][h] : NONE; }
    public int arrives(int f, int h, int t) { return isH(f, h) && t >= 0 && t <= 60 && !diverges() ? told().arrives(f, h, t) : NONE; }
    public int left(int f, int h, int t) { return isH(f, h) && t >= 0 && t <= 60 && !diverges() ? told().left(f, h, t) : NONE; }
    public int total(int f) { return isF(f) && !diverges() ? told().total(f) : NONE; }
    public int once(int f) { return isF(f) && !diverges() ? told().once(f) : NONE; }
    public int full(int n) { return isN(n) && !diverges() ? Math.max(0, behindOf(t -> told().comes(n, t), t -> c(net.nodes.get(n).curve).at(t))) : NONE; }
    public int comes(int n, int t) { return isN(n) && t >= 0 && t <= 60 && !diverges() ? told().comes(n, t) : NONE; }

    public int saves(int f) {
        if (once(f) == NONE) { throw new NoSuchElementException(); }
        return total(f) - once(f);
    }

    public int worst() {
        int best = NONE;
        for (int f = 0; f < net.flows.size(); f++) { if (total(f) != NONE && (best == NONE || total(f) > total(best))) { best = f; } }
        return best;
    }

    public int tries(int n, int i, int f) {
        if (!isN(n) || !isC(i) || !isF(f)) { return NONE; }
        Settled s = new Settled(n, i);
        return s.rounds == NONE ? NONE : s.total(f);
    }

    public int tune(int n, int f) {
        int best = NONE, least = Integer.MAX_VALUE;
        for (int i = 0; i < net.curves.size(); i++) {
            int t = tries(n, i, f);
            if (t != NONE && t < least) { least = t; best = i; }
        }
        return best;
    }

    // ---- units ----

    private int putInto(World w, int f, int many) {
        if (w.time == 60 || w.units() + many > 40) { return NONE; }
        int first = net.flows.get(f).way.get(0), kept = 0;
        for (int i = 0; i < many; i++) {
            w.puts.add(new int[] {f, w.time});
            if (net.loses != null && net.loses.of(w.at.get(first).size(), w.units(), f, w.time) != 0) { w.lost[f]++; }
            else { w.at.get(first).add(new Unit(f, w.time)); kept++; }
        }
        return kept;
    }

    /** All UNITS of a NODE in the order in which it would serve them. */
    private static List<Unit> order(int kind, List<Unit> there) {
        List<Unit> left = new ArrayList<>(there), order = new ArrayList<>();
        if (kind == 0) { java.util.Collections.reverse(left); return left; }
        if (kind == 2) { return left; }
        while (!left.isEmpty()) {
            for (int f = 0; f < 4; f++) {
                for (int i = 0; i < left.size(); i++) {
                    if (left.get(i).flow == f) {
                        order.add(left.remove(i));
                        if (kind == 3) { break; }
                        i--;
                    }
                }
            }
        }
        return order;
    }

    private int served(World w, int n) {
        MCurve s = c(net.nodes.get(n).curve);
        return w.at.get(n).isEmpty() ? 0 : s.at(w.busy[n] + 1) - s.at(w.busy[n]);
    }

    private int tickOf(World w) {
        if (w.time == 60) { return NONE; }
        List<List<Unit>> moving = new ArrayList<>();
        for (int n = 0; n < net.nodes.size(); n++) {
            List<Unit> there = w.at.get(n);
            List<Unit> order = order(net.nodes.get(n).kind, there);
            List<Unit> go = new ArrayList<>(order.subList(0, Math.min(order.size(), served(w, n))));
            if (!there.isEmpty()) { w.busy[n]++; }
            there.removeAll(go);
            if (there.isEmpty()) { w.busy[n] = 0; }
            moving.add(go);
        }
        w.time++;
        int gone = 0;
        for (int n = 0; n < net.nodes.size(); n++) {
            for (Unit u : moving.get(n)) {
                List<Integer> way = net.flows.get(u.flow).way;
                int hop = way.indexOf(n);
                if (hop + 1 < way.size()) { w.at.get(way.get(hop + 1)).add(u); continue; }
                gone++;
                w.gone[u.flow]++;
                w.latest[u.flow] = Math.max(w.latest[u.flow], w.time - u.born);
            }
        }
        return gone;
    }

    public int put(int f, int many) { return isF(f) && many >= 1 && many <= 9 ? putInto(world, f, many) : NONE; }
    public int tick() { return tickOf(world); }

    private static int sum(int[] row) { int s = 0; for (int x : row) { s += x; } return s; }

    public int judged(int what) {
        World w = new World();
        int cant = NONE;
        for (int i = 0; i < script.size(); i++) {
            int[] line = script.get(i);
            int done = line.length == 0 ? tickOf(w) : putInto(w, line[0], line[1]);
            if (done == NONE && cant == NONE) { cant = i; }
        }
        return what == 0 ? cant : what == 1 ? sum(w.gone) : what == 2 ? w.worst() : what == 3 ? w.units() : -2;
    }

    public boolean fits(int f) {
        if (!isF(f)) { return false; }
        for (int from = 0; from <= world.time; from++) {
            for (int to = from; to <= world.time + 1; to++) {
                int n = 0;
                for (int[] p : world.puts) { if (p[0] == f && p[1] >= from && p[1] < to) { n++; } }
                if (n > c(net.flows.get(f).curve).at(to - from)) { return false; }
            }
        }
        return true;
    }

    public boolean holds(int f) { return isF(f) && (diverges() || world.latest[f] <= total(f)); }

    public int serves(int n) {
        if (!isN(n) || served(world, n) == 0) { return NONE; }
        return order(net.nodes.get(n).kind, world.at.get(n)).get(0).flow;
    }

    public int latest(int f) { return isF(f) ? world.latest[f] : NONE; }

    public int oldest(int f) {
        int o = NONE;
        for (List<Unit> q : world.at) { for (Unit u : q) { if (u.flow == f && (o == NONE || u.born < o)) { o = u.born; } } }
        return o;
    }

    public boolean see(int t, int much, boolean more) {
        if (t < 0 || t > 60 || much < 0 || much > 999 || world.seen.size() == 8) { return false; }
        world.seen.add(new int[] {t, much, more ? 1 : 0});
        return true;
    }

    private List<MCurve> suspects() {
        List<MCurve> all = new ArrayList<>();
        for (MCurve c : net.curves) {
            boolean so = true;
            for (int[] s : world.seen) { so &= s[2] == 1 ? c.at(s[0]) >= s[1] : c.at(s[0]) < s[1]; }
            if (so) { all.add(c); }
        }
        return all;
    }

    public int who() {
        int bits = 0;
        for (MCurve c : suspects()) { bits |= 1 << net.curves.indexOf(c); }
        return bits;
    }

    public int look() {
        List<MCurve> all = suspects();
        int best = NONE, least = Integer.MAX_VALUE;
        for (int t = 0; t <= 60; t++) {
            Map<Integer, Integer> groups = new HashMap<>();
            for (MCurve c : all) { groups.merge(c.at(t), 1, Integer::sum); }
            int most = 0;
            for (int g : groups.values()) { most = Math.max(most, g); }
            if (most < least) { least = most; best = t; }
        }
        return least < all.size() ? best : NONE;
    }

    public int loads(int seed, int ticks, int what) {
        if (seed < 0 || seed > 9999 || ticks < 1 || ticks > 60 || what < 0 || what > 2) { return -2; }
        World w = world.copy();
        java.math.BigInteger g = java.math.BigInteger.valueOf(seed);
        int gone = 0;
        for (int i = 0; i < ticks && w.time < 60; i++) {
            if (!net.flows.isEmpty()) {
                int[] drawn = new int[2];
                for (int k = 0; k < 2; k++) {
                    g = g.multiply(java.math.BigInteger.valueOf(1103515245)).add(java.math.BigInteger.valueOf(12345))
                        .mod(java.math.BigInteger.valueOf(2147483648L));
                    drawn[k] = g.divide(java.math.BigInteger.valueOf(65536)).intValue() % (k == 0 ? net.flows.size() : 4);
                }
                if (drawn[1] != 0) { putInto(w, drawn[0], drawn[1]); }
            }
            gone += tickOf(w);
        }
        return what == 0 ? gone : what == 1 ? w.units() : w.worst();
    }

    public boolean mark(int m, boolean back) {
        if (m < 0 || m > 1 || back && marks[m] == null) { return false; }
        if (back) { world = marks[m].copy(); } else { marks[m] = world.copy(); }
        return true;
    }

    public int count(int what) {
        int[] all = {net.curves.size(), net.nodes.size(), net.flows.size(), world.time, world.units(),
            sum(world.gone), sum(world.lost), script.size(), world.seen.size(), tape.length()};
        return what >= 0 && what < all.length ? all[what] : NONE;
    }
}
