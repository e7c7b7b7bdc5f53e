/**
 * Answers worked out by hand from the document, promise by promise, but for three NETS that were found by a search and
 * that ModelTest holds against the model, too; the FAULTS of 3 and 4 are in FaultsTest.
 */
public final class PromisesTest {
    private static final Told told = new Told();
    private static final int NONE = DelayBounds.NONE;
    private static final int[] WILD = {-1, Integer.MIN_VALUE, Integer.MAX_VALUE};

    /**
     * slow: 0 2 3 4 .. (t + 1); step: 0 0 3 3 6 6 ..; quick: 4 t; idle: 0 0 0 2 4 .. (2 t - 4); high: 9 + 9 t;
     * rag: 0 1 1 9 17 ..
     */
    private static final String CURVES = "curve slow is 0 2 again 1 adds 1 ; curve step is 0 0 3 again 2 adds 3 ; "
        + "curve quick is 0 again 1 adds 4 ; curve idle is 0 0 0 again 1 adds 2 ; curve high is 9 again 1 adds 9 ; "
        + "curve rag is 0 1 1 9 again 1 adds 8 ; ";
    private static final int SLOW = 0;
    private static final int STEP = 1;
    private static final int QUICK = 2;
    private static final int IDLE = 3;
    private static final int HIGH = 4;
    private static final int RAG = 5;

    private static final String TANDEM = CURVES + "node m fifo serves idle ; node n blind serves quick ; "
        + "flow f sends slow over m n ; flow g sends slow over n ; ";
    private static final String TOO_MUCH = CURVES + "node m fifo serves idle ; flow f sends quick over m ; ";
    private static final String RATES = "curve one is 0 again 1 adds 1 ; curve two is 0 again 1 adds 2 ; "
        + "curve three is 0 again 1 adds 3 ; curve wait is 0 0 2 again 2 adds 2 ; ";

    private static DelayBounds curves() {
        return Told.of(CURVES);
    }

    private static DelayBounds over(String kind, String serves) {
        return Told.of(CURVES + "node n " + kind + " serves " + serves
            + " ; flow f sends slow over n ; flow g sends slow over n ;");
    }

    private static void p01ANewObject() {
        DelayBounds x = new DelayBounds();
        for (int what = 0; what <= 9; what++) {
            told.due("count of nothing " + what, x.count(what), 0);
        }
        told.due("NONE", DelayBounds.NONE, -1);
        told.due("rounds of nothing", x.rounds(), 1);
        told.due("tick of nothing", x.tick(), 0);
        told.due("run of nothing", x.run(), 0);
        told.due("net of nothing", x.net(), 0);
        told.due("time behind a NET of nothing", x.count(3), 0);
        told.due("mark on nothing", x.mark(0, false), true);
        told.due("loads of nothing", x.loads(0, 60, 1), 0);
    }

    private static void p02Feed() {
        DelayBounds x = new DelayBounds();
        told.due("feed of nothing", x.feed(0, 0, 0), 0);
        told.due("feed of 24", x.feed(0x2020202020202020L, 0x7e7e7e7e7e7e7e7eL, 0x0a0a0a0a0a0a0a0aL), 24);
        told.due("feed of others", x.feed(0x00010908090b0c0dL, 0x1f7f8081feff1e00L, 0xffffffffffffffffL), 24);
        told.due("feed of a few", x.feed(0x0020000a007e0021L, 0, 0x4100000000000042L), 30);
        for (int i = 0; i < 40; i++) {
            told.due("feed on", x.feed(0x2020202020202020L, 0x2020202020202020L, 0x2020202020202020L),
                54 + 24 * i);
        }
        told.due("feed beyond 1,000", x.feed(0x2020202020202020L, 0x2020202020202020L, 0), 1000);
        told.due("signs", x.count(9), 1000);
        told.due("feed of a full TAPE", x.feed(0x2020202020202020L, 0, 0), 1000);
        x.net();
        told.due("signs of a TAPE that was read", x.count(9), 0);
        // the highest byte first, a ahead of b ahead of c
        told.due("feed of a word", x.feed(0x6375727600000000L, 0x0000000000000065L, 0x2063206973203000L), 12);
        told.due("net, at its end", x.net(), 1 + 16 * 12);
    }

    private static void p05Curve() {
        DelayBounds x = curves();
        int[][] due = {{2, 1, 1, 1000, 1}, {3, 2, 3, 1500, 0}, {1, 1, 4, 4000, 3}, {3, 1, 2, 2000, 2},
            {1, 1, 9, 9000, 3}, {4, 1, 8, 8000, 0}};
        for (int c = 0; c < due.length; c++) {
            for (int what = 0; what < 5; what++) {
                told.due("curve " + c + " " + what, x.curve(c, what), due[c][what]);
            }
            told.due("curve " + c + " 5", x.curve(c, 5), NONE);
            told.due("curve " + c + " -1", x.curve(c, -1), NONE);
        }
        told.due("curve 6", x.curve(6, 0), NONE);
        for (int wild : WILD) {
            told.due("curve " + wild, x.curve(wild, 0), NONE);
            told.due("curve what " + wild, x.curve(0, wild), NONE);
        }
        // 7 in 3: 2333.33, cut
        told.due("rate, cut", Told.of("curve c is 0 1 2 again 3 adds 7 ;").curve(0, 3), 2333);
        told.due("rate of 0", Told.of("curve c is 5 again 1 adds 0 ;").curve(0, 3), 0);
    }

    private static void p06Node() {
        DelayBounds x = Told.of(RATES + "node a blind serves wait ; node b first serves two ; node c fifo serves one ; "
            + "node d fair serves three ; flow f sends one over c a ; flow g sends one over a ; flow h sends two over a b ;");
        int[] serves = {3, 1, 0, 2};
        int[] over = {7, 4, 1, 0};
        for (int n = 0; n < 4; n++) {
            told.due("KIND of " + n, x.node(n, 0), n);
            told.due("CURVE of " + n, x.node(n, 1), serves[n]);
            told.due("FLOWS over " + n, x.node(n, 2), over[n]);
            told.due("UNITS at " + n, x.node(n, 3), 0);
            told.due("BUSY of " + n, x.node(n, 4), 0);
            told.due("node 5", x.node(n, 5), NONE);
        }
        x.put(1, 3);
        told.due("UNITS there", x.node(0, 3), 3);
        told.due("BUSY at once", x.node(0, 4), 0);
        x.tick();
        told.due("UNITS still there", x.node(0, 3), 3);
        told.due("BUSY for a TICK", x.node(0, 4), 1);
        x.tick();
        told.due("UNITS left", x.node(0, 3), 1);
        told.due("BUSY for two", x.node(0, 4), 2);
        told.due("node 4", x.node(4, 0), NONE);
        for (int wild : WILD) {
            told.due("node " + wild, x.node(wild, 0), NONE);
            told.due("node what " + wild, x.node(0, wild), NONE);
        }
    }

    private static void p07Flow() {
        DelayBounds x = Told.of(RATES + "node a fifo serves two ; node b fifo serves one ; "
            + "flow f sends three over a b ; flow g sends wait over b ; loses which = 0 and 3 < queue ;");
        told.due("CURVE of f", x.flow(0, 0), 2);
        told.due("CURVE of g", x.flow(1, 0), 3);
        told.due("NODES of f", x.flow(0, 1), 2);
        told.due("NODES of g", x.flow(1, 1), 1);
        told.due("put f", x.put(0, 6), 4);
        told.due("put g", x.put(1, 1), 1);
        told.due("UNITS of f", x.flow(0, 2), 4);
        told.due("LOST of f", x.flow(0, 4), 2);
        told.due("LOST of g", x.flow(1, 4), 0);
        told.due("tick", x.tick(), 1);
        told.due("GONE of g", x.flow(1, 3), 1);
        told.due("UNITS of g", x.flow(1, 2), 0);
        told.due("UNITS of f, on its way", x.flow(0, 2), 4);
        told.due("flow 5", x.flow(0, 5), NONE);
        told.due("flow 2", x.flow(2, 0), NONE);
        for (int wild : WILD) {
            told.due("flow " + wild, x.flow(wild, 0), NONE);
            told.due("flow what " + wild, x.flow(0, wild), NONE);
        }
    }

    private static void p08Way() {
        DelayBounds x = Told.of(RATES + "node a fifo serves one ; node b fifo serves one ; node c fifo serves one ; "
            + "node d fifo serves one ; flow f sends one over d b a c ; flow g sends one over c ;");
        int[] due = {3, 1, 0, 2, NONE};
        for (int hop = 0; hop < due.length; hop++) {
            told.due("way " + hop, x.way(0, hop), due[hop]);
        }
        told.due("way of g", x.way(1, 0), 2);
        told.due("way of g on", x.way(1, 1), NONE);
        told.due("way of none", x.way(2, 0), NONE);
        for (int wild : WILD) {
            told.due("way " + wild, x.way(wild, 0), NONE);
            told.due("way hop " + wild, x.way(0, wild), NONE);
        }
    }

    private static void p09Value() {
        DelayBounds x = curves();
        int[] step = {0, 0, 3, 3, 6, 6, 9, 9};
        for (int t = 0; t < step.length; t++) {
            told.due("step at " + t, x.value(STEP, t), step[t]);
        }
        told.due("slow at 120", x.value(SLOW, 120), 121);
        told.due("step at 119", x.value(STEP, 119), 177);
        told.due("high at 0", x.value(HIGH, 0), 9);
        told.due("rag at 10", x.value(RAG, 10), 65);
        told.due("slow at 121", x.value(SLOW, 121), NONE);
        told.due("value of 6", x.value(6, 0), NONE);
        for (int wild : WILD) {
            told.due("value of " + wild, x.value(wild, 0), NONE);
            told.due("value at " + wild, x.value(0, wild), NONE);
        }
        // 1 4 6 9: of three again, 10 more
        DelayBounds y = Told.of("curve c is 1 4 6 9 again 3 adds 10 ;");
        int[] due = {1, 4, 6, 9, 14, 16, 19, 24, 26, 29};
        for (int t = 0; t < due.length; t++) {
            told.due("c at " + t, y.value(0, t), due[t]);
        }
    }

    private static void p10Fold() {
        DelayBounds x = curves();
        told.due("fold at 0", x.fold(HIGH, HIGH, 0), 18);
        told.due("slow, quick at 1", x.fold(SLOW, QUICK, 1), 2);
        told.due("slow, quick at 5", x.fold(SLOW, QUICK, 5), 6);
        told.due("step, idle at 6", x.fold(STEP, IDLE, 6), 5);
        told.due("idle, step at 6", x.fold(IDLE, STEP, 6), 5);
        told.due("quick, quick at 120", x.fold(QUICK, QUICK, 120), 480);
        told.due("fold at 121", x.fold(QUICK, QUICK, 121), NONE);
        told.due("fold of 6", x.fold(6, QUICK, 1), NONE);
        told.due("fold with 6", x.fold(QUICK, 6, 1), NONE);
        for (int wild : WILD) {
            told.due("fold of " + wild, x.fold(wild, 0, 0), NONE);
            told.due("fold with " + wild, x.fold(0, wild, 0), NONE);
            told.due("fold at " + wild, x.fold(0, 0, wild), NONE);
        }
    }

    private static void p11Unfold() {
        DelayBounds x = curves();
        told.due("slow, idle at 0", x.unfold(SLOW, IDLE, 0), 3);
        told.due("slow, idle at 2", x.unfold(SLOW, IDLE, 2), 5);
        told.due("quick, slow at 60", x.unfold(QUICK, SLOW, 60), 419);
        told.due("idle, high at 0", x.unfold(IDLE, HIGH, 0), -9);
        told.dueNoSuchElement("unfold at 61", () -> x.unfold(0, 0, 61));
        told.dueNoSuchElement("unfold of 6", () -> x.unfold(6, 0, 0));
        told.dueNoSuchElement("unfold with 6", () -> x.unfold(0, 6, 0));
        for (int wild : WILD) {
            told.dueNoSuchElement("unfold of " + wild, () -> x.unfold(wild, 0, 0));
            told.dueNoSuchElement("unfold with " + wild, () -> x.unfold(0, wild, 0));
            told.dueNoSuchElement("unfold at " + wild, () -> x.unfold(0, 0, wild));
        }
    }

    private static void p12Star() {
        DelayBounds x = curves();
        int[] rag = {0, 1, 1, 2, 2, 3, 3};
        int[] high = {0, 18, 27, 36, 45};
        for (int t = 0; t < rag.length; t++) {
            told.due("star of rag at " + t, x.star(RAG, t), rag[t]);
            told.due("star of step at " + t, x.star(STEP, t), 0);
        }
        for (int t = 0; t < high.length; t++) {
            told.due("star of high at " + t, x.star(HIGH, t), high[t]);
        }
        told.due("star of slow at 60", x.star(SLOW, 60), 61);
        told.due("star of rag at 60", x.star(RAG, 60), 30);
        told.due("star at 61", x.star(SLOW, 61), NONE);
        told.due("star of 6", x.star(6, 1), NONE);
        for (int wild : WILD) {
            told.due("star of " + wild, x.star(wild, 0), NONE);
            told.due("star at " + wild, x.star(0, wild), NONE);
        }
    }

    private static void p13Sub() {
        DelayBounds x = curves();
        boolean[] due = {true, false, true, false, true, false, false};
        for (int c = 0; c < due.length; c++) {
            told.due("sub of " + c, x.sub(c), due[c]);
        }
        for (int wild : WILD) {
            told.due("sub of " + wild, x.sub(wild), false);
        }
        // 0 5 6 12: at 1 and 2 together 11
        told.due("sub at 3", Told.of("curve c is 0 5 6 12 again 1 adds 0 ;").sub(0), false);
        // at 0 it may be what it likes
        told.due("sub at 0", Told.of("curve c is 0 5 10 again 1 adds 0 ;").sub(0), true);
    }

    private static void p14Late() {
        DelayBounds x = curves();
        told.due("slow, step", x.late(SLOW, STEP), 1);
        told.due("slow, idle", x.late(SLOW, IDLE), 2);
        told.due("slow, quick", x.late(SLOW, QUICK), 0);
        told.due("quick, step", x.late(QUICK, STEP), NONE);
        told.due("late of 6", x.late(6, 0), NONE);
        told.due("late with 6", x.late(0, 6), NONE);
        for (int wild : WILD) {
            told.due("late of " + wild, x.late(wild, 0), NONE);
            told.due("late with " + wild, x.late(0, wild), NONE);
        }
        DelayBounds y = Told.of(RATES + "curve more is 1 again 1 adds 2 ;");
        told.due("two, one: 120 at 60 + 60", y.late(1, 0), 60);
        told.due("one more, one: not by 60", y.late(4, 0), NONE);
    }

    private static void p15Behind() {
        DelayBounds x = curves();
        told.due("slow, idle", x.behind(SLOW, IDLE), 3);
        told.due("quick, slow: 240 less 61", x.behind(QUICK, SLOW), 179);
        told.due("idle, high", x.behind(IDLE, HIGH), -9);
        told.due("slow, slow", x.behind(SLOW, SLOW), 0);
        told.dueNoSuchElement("behind of 6", () -> x.behind(6, 0));
        told.dueNoSuchElement("behind with 6", () -> x.behind(0, 6));
        for (int wild : WILD) {
            told.dueNoSuchElement("behind of " + wild, () -> x.behind(wild, 0));
            told.dueNoSuchElement("behind with " + wild, () -> x.behind(0, wild));
        }
    }

    private static void p16Above() {
        DelayBounds x = curves();
        told.due("slow, idle", x.above(SLOW, IDLE), 1);
        told.due("idle, slow: 8 and 7", x.above(IDLE, SLOW), 6);
        told.due("high, slow", x.above(HIGH, SLOW), 0);
        told.due("slow, quick", x.above(SLOW, QUICK), NONE);
        told.due("above of 6", x.above(6, 0), NONE);
        told.due("above with 6", x.above(0, 6), NONE);
        for (int wild : WILD) {
            told.due("above of " + wild, x.above(wild, 0), NONE);
            told.due("above with " + wild, x.above(0, wild), NONE);
        }
        DelayBounds y = Told.of("curve one is 0 again 1 adds 1 ; curve f is 59 again 1 adds 0 ; curve g is 60 again 1 adds 0 ;");
        told.due("60, 59 at 60", y.above(0, 1), 60);
        told.due("61, 60 at 61", y.above(0, 2), NONE);
    }

    private static void p17Rounds() {
        told.due("no FLOWS", curves().rounds(), 1);
        told.due("nothing to change", over("blind", "quick").rounds(), 1);
        told.due("one change", over("fifo", "idle").rounds(), 2);
        told.due("two changes", Told.of(TANDEM).rounds(), 3);
        told.due("not by 60", Told.of(TOO_MUCH).rounds(), NONE);
        // FIFO, nothing but one FLOW: two over one is LATE by 60, one more is not by 60
        String alone = RATES + "curve more is 1 again 1 adds 2 ; node n fifo serves one ; flow f sends ";
        told.due("LATE by 60", Told.of(alone + "two over n ;").rounds(), 2);
        told.due("LATE by 61", Told.of(alone + "more over n ;").rounds(), NONE);
        // found by a search
        told.due("in 60 ROUNDS", Told.of("curve a is 0 1 again 2 adds 1;curve b is 0 1 3 again 3 adds 5;"
            + "node m fifo serves b;node n fifo serves b;node o blind serves b;node p blind serves b;"
            + "flow w sends a over p o m n;flow x sends a over n p;flow y sends a over p o n;").rounds(), 60);
        // found by a search: all are by 60 in it, and none would change in a 61st
        told.due("not in 60 ROUNDS", Told.of("curve a is 0 2 2 again 2 adds 2;curve b is 0 again 1 adds 2;"
            + "curve c is 0 3 5 again 3 adds 10;node m blind serves b;node n blind serves c;node o blind serves c;"
            + "node p blind serves b;flow w sends a over m n o;flow x sends a over o m n;").rounds(), NONE);
    }

    private static void p18Delay() {
        DelayBounds x = Told.of(TANDEM);
        told.due("f at m", x.delay(0, 0), 2);
        told.due("f at n", x.delay(0, 1), 2);
        told.due("g at n", x.delay(1, 0), 1);
        told.due("g no further", x.delay(1, 1), NONE);
        told.due("no flow", x.delay(2, 0), NONE);
        for (int wild : WILD) {
            told.due("delay of " + wild, x.delay(wild, 0), NONE);
            told.due("delay at " + wild, x.delay(0, wild), NONE);
        }
        String[] kinds = {"blind", "first", "fifo", "fair"};
        int[][] due = {{6, 6}, {2, 6}, {3, 3}, {3, 3}};
        for (int k = 0; k < 4; k++) {
            told.due(kinds[k] + ": f", over(kinds[k], "idle").delay(0, 0), due[k][0]);
            told.due(kinds[k] + ": g", over(kinds[k], "idle").delay(1, 0), due[k][1]);
        }
        told.due("delay if they DIVERGE", Told.of(TOO_MUCH).delay(0, 0), NONE);
    }

    private static void p19Arrives() {
        DelayBounds x = Told.of(TANDEM);
        told.due("f at m at 0", x.arrives(0, 0, 0), 0);
        told.due("f at m at 60", x.arrives(0, 0, 60), 61);
        told.due("f at n at 0", x.arrives(0, 1, 0), 3);
        told.due("f at n at 60", x.arrives(0, 1, 60), 63);
        told.due("g at n at 1", x.arrives(1, 0, 1), 2);
        told.due("at 61", x.arrives(0, 0, 61), NONE);
        told.due("no hop", x.arrives(0, 2, 0), NONE);
        told.due("no flow", x.arrives(2, 0, 0), NONE);
        for (int wild : WILD) {
            told.due("arrives of " + wild, x.arrives(wild, 0, 0), NONE);
            told.due("arrives by " + wild, x.arrives(0, wild, 0), NONE);
            told.due("arrives at " + wild, x.arrives(0, 0, wild), NONE);
        }
        told.due("arrives if they DIVERGE", Told.of(TOO_MUCH).arrives(0, 0, 0), NONE);
    }

    private static void p20Left() {
        DelayBounds x = Told.of(TANDEM);
        int[] f = {0, 2, 5, 8};
        int[] g = {0, 0, 3, 6};
        for (int t = 0; t < 4; t++) {
            told.due("for f at n at " + t, x.left(0, 1, t), f[t]);
            told.due("for g at n at " + t, x.left(1, 0, t), g[t]);
            told.due("for f at m at " + t, x.left(0, 0, t), t < 3 ? 0 : 2);
        }
        told.due("for f at n at 60", x.left(0, 1, 60), 179);
        told.due("at 61", x.left(0, 1, 61), NONE);
        told.due("no hop", x.left(1, 1, 0), NONE);
        told.due("no flow", x.left(2, 0, 0), NONE);
        for (int wild : WILD) {
            told.due("left of " + wild, x.left(wild, 0, 0), NONE);
            told.due("left by " + wild, x.left(0, wild, 0), NONE);
            told.due("left at " + wild, x.left(0, 0, wild), NONE);
        }
        told.due("left if they DIVERGE", Told.of(TOO_MUCH).left(0, 0, 0), NONE);
        told.due("first: all for f", over("first", "idle").left(0, 0, 9), 14);
        told.due("first: the rest for g", over("first", "idle").left(1, 0, 9), 4);
        told.due("fair: 6 of 2", over("fair", "idle").left(1, 0, 5), 3);
        told.due("fair: 3 of 2, cut", over("fair", "step").left(1, 0, 2), 1);
        told.due("fifo: all", over("fifo", "idle").left(1, 0, 9), 14);
        // blind: 8 8 8 9 less 0 0 9 9: what was LEFT once stays
        DelayBounds y = Told.of("curve nil is 0 again 1 adds 0 ; curve jump is 0 0 9 again 1 adds 0 ; "
            + "curve flat is 8 8 8 9 again 1 adds 0 ; node n blind serves flat ; "
            + "flow f sends nil over n ; flow g sends jump over n ;");
        for (int t = 0; t < 9; t++) {
            told.due("blind: the most so far, at " + t, y.left(0, 0, t), 8);
        }
    }

    private static void p21Total() {
        DelayBounds x = Told.of(TANDEM);
        told.due("f", x.total(0), 4);
        told.due("g", x.total(1), 1);
        told.due("no flow", x.total(2), NONE);
        for (int wild : WILD) {
            told.due("total of " + wild, x.total(wild), NONE);
        }
        told.due("total if they DIVERGE", Told.of(TOO_MUCH).total(0), NONE);
    }

    private static void p22Once() {
        DelayBounds x = Told.of(TANDEM);
        told.due("f: 0 at n, 2 at m", x.once(0), 2);
        told.due("g", x.once(1), 1);
        told.due("no flow", x.once(2), NONE);
        for (int wild : WILD) {
            told.due("once of " + wild, x.once(wild), NONE);
        }
        told.due("once if they DIVERGE", Told.of(TOO_MUCH).once(0), NONE);
        told.due("fifo alone", over("fifo", "idle").once(1), 3);
        // alone at two blind nodes of idle: 2 and then 3 + t by 2 t - 4: 4; folded 0 to 4, then 2 more each: by 4
        DelayBounds y = Told.of(CURVES + "node m blind serves idle ; node n blind serves idle ; flow f sends slow over m n ;");
        told.due("hop by hop", y.total(0), 6);
        told.due("folded", y.once(0), 4);
        told.due("saves", y.saves(0), 2);
        // two, served by four and then by one: 2 t against t, LATE by 60 only at 120
        DelayBounds w = Told.of(RATES + "curve four is 0 again 1 adds 4 ; node m blind serves four ; "
            + "node n fair serves one ; flow f sends two over m n ;");
        told.due("by 60 on the whole", w.total(0), 60);
        told.due("once by 60", w.once(0), 60);
        // found by a search: hop by hop each is by 60, but folded it is not
        DelayBounds z = Told.of("curve a is 0 0 0 again 1 adds 1;curve b is 0 3 again 2 adds 8;"
            + "curve c is 0 1 1 again 2 adds 3;node m blind serves b;node n first serves b;node o blind serves c;"
            + "flow w sends a over m o n;flow x sends a over o n;");
        told.due("they settle", z.total(1) != NONE, true);
        told.due("once not by 60", z.once(1), NONE);
        told.dueNoSuchElement("saves without ONCE", () -> z.saves(1));
    }

    private static void p23Full() {
        DelayBounds x = Told.of(TANDEM + "node o fair serves slow ; ");
        told.due("m", x.full(0), 3);
        told.due("n", x.full(1), 3);
        told.due("where no FLOW goes", x.full(2), 0);
        told.due("no node", x.full(3), NONE);
        for (int wild : WILD) {
            told.due("full of " + wild, x.full(wild), NONE);
        }
        told.due("0 at least", Told.of(CURVES + "node n fair serves high ; flow f sends slow over n ;").full(0), 0);
        told.due("full if they DIVERGE", Told.of(TOO_MUCH).full(0), NONE);
    }

    private static void p24Comes() {
        DelayBounds x = Told.of(TANDEM + "node o fair serves slow ; ");
        told.due("n at 0", x.comes(1, 0), 3);
        told.due("n at 1", x.comes(1, 1), 6);
        told.due("n at 60", x.comes(1, 60), 124);
        told.due("m at 1", x.comes(0, 1), 2);
        told.due("where no FLOW goes", x.comes(2, 9), 0);
        told.due("at 61", x.comes(1, 61), NONE);
        told.due("no node", x.comes(3, 0), NONE);
        for (int wild : WILD) {
            told.due("comes to " + wild, x.comes(wild, 0), NONE);
            told.due("comes at " + wild, x.comes(0, wild), NONE);
        }
        told.due("comes if they DIVERGE", Told.of(TOO_MUCH).comes(0, 0), NONE);
    }

    private static void p25Saves() {
        DelayBounds x = Told.of(TANDEM);
        told.due("f", x.saves(0), 2);
        told.due("g", x.saves(1), 0);
        told.dueNoSuchElement("no flow", () -> x.saves(2));
        for (int wild : WILD) {
            told.dueNoSuchElement("saves of " + wild, () -> x.saves(wild));
        }
        DelayBounds y = Told.of(TOO_MUCH);
        told.dueNoSuchElement("saves if they DIVERGE", () -> y.saves(0));
    }

    private static void p26Worst() {
        told.due("f", Told.of(TANDEM).worst(), 0);
        told.due("g", over("first", "idle").worst(), 1);
        told.due("of equal ones the first", over("fair", "idle").worst(), 0);
        told.due("no FLOWS", curves().worst(), NONE);
        told.due("worst if they DIVERGE", Told.of(TOO_MUCH).worst(), NONE);
    }

    private static void p27Tries() {
        DelayBounds x = Told.of(TANDEM);
        told.due("m by quick", x.tries(0, QUICK, 0), 0);
        told.due("m by idle, as told", x.tries(0, IDLE, 0), 4);
        told.due("n by idle: 2 and 8", x.tries(1, IDLE, 0), 10);
        told.due("n by idle, g", x.tries(1, IDLE, 1), 8);
        told.due("total is as ahead", x.total(0), 4);
        told.due("rounds are as ahead", x.rounds(), 3);
        told.due("the CURVE is as ahead", x.node(1, 1), QUICK);
        told.due("n by slow: two of them are too much", x.tries(1, SLOW, 1), NONE);
        told.due("no node", x.tries(2, 0, 0), NONE);
        told.due("no curve", x.tries(0, 6, 0), NONE);
        told.due("no flow", x.tries(0, 0, 2), NONE);
        for (int wild : WILD) {
            told.due("tries node " + wild, x.tries(wild, 0, 0), NONE);
            told.due("tries curve " + wild, x.tries(0, wild, 0), NONE);
            told.due("tries flow " + wild, x.tries(0, 0, wild), NONE);
        }
        told.due("a try that settles what DIVERGES", Told.of(TOO_MUCH).tries(0, HIGH, 0), 0);
    }

    private static void p28Tune() {
        DelayBounds x = Told.of(TANDEM);
        told.due("m: slow is as good as any", x.tune(0, 0), SLOW);
        told.due("n: 2 by quick, high is better", x.tune(1, 0), HIGH);
        told.due("rounds are as ahead", x.rounds(), 3);
        told.due("no node", x.tune(2, 0), NONE);
        told.due("no flow", x.tune(0, 2), NONE);
        for (int wild : WILD) {
            told.due("tune node " + wild, x.tune(wild, 0), NONE);
            told.due("tune flow " + wild, x.tune(0, wild), NONE);
        }
        told.due("what DIVERGES as told", Told.of(TOO_MUCH).tune(0, 0), QUICK);
        DelayBounds y = Told.of("curve a is 0 again 1 adds 1 ; curve b is 1 again 1 adds 2 ; node n fair serves a ; "
            + "flow f sends b over n ; flow g sends b over n ;");
        told.due("by none", y.tune(0, 0), NONE);
    }

    private static void p29Put() {
        DelayBounds x = Told.of(RATES + "node n fifo serves one ; flow f sends one over n ; flow g sends one over n ; "
            + "loses which = 1 and 38 < here + 1 ;");
        told.due("put 0", x.put(0, 0), NONE);
        told.due("put 10", x.put(0, 10), NONE);
        told.due("put of none", x.put(2, 1), NONE);
        for (int wild : WILD) {
            told.due("put of " + wild, x.put(wild, 1), NONE);
            told.due("put so many: " + wild, x.put(0, wild), NONE);
        }
        for (int i = 0; i < 4; i++) {
            told.due("put 9", x.put(0, 9), 9);
        }
        told.due("41 would be", x.put(0, 5), NONE);
        told.due("40 would be, 2 are LOST", x.put(1, 4), 2);
        told.due("there", x.count(4), 38);
        told.due("41 would be, LOST or not", x.put(1, 3), NONE);
        told.due("all LOST", x.put(1, 2), 0);
        told.due("LOST", x.flow(1, 4), 4);
        told.due("40 are", x.put(0, 2), 2);
        told.due("one more", x.put(0, 1), NONE);
        for (int i = 0; i < 60; i++) {
            x.tick();
        }
        told.due("none is there", x.count(4), 0);
        told.due("put at 60", x.put(0, 1), NONE);
    }

    /** What of 3 at once is not LOST. */
    private static void kept(int due, String law) {
        DelayBounds x = Told.of(RATES + "node n fifo serves one ; node m fifo serves one ; "
            + "flow f sends one over m ; flow g sends one over n ; loses " + law + " ;");
        x.tick();
        x.put(0, 1);
        told.due("loses " + law, x.put(1, 3), due);
    }

    private static void p29Loses() {
        kept(3, "0");
        kept(0, "7");
        kept(3, "1 or 1 and 0");
        kept(0, "0 and 1 or 1");
        kept(0, "1 + 2 * 3 = 7");
        kept(3, "2 * 3 + 1 = 8");
        kept(0, "9 - 4 - 3 = 2");
        kept(0, "0 - 1 < 0");
        kept(3, "1 < 1");
        kept(0, "not 0 + 1");
        kept(3, "not ( 0 + 1 )");
        kept(0, "not not 5 = 1");
        kept(0, "( 3 < 4 ) = 1");
        kept(0, "( 3 = 3 ) = 1");
        kept(0, "( 2 and 3 ) = 1");
        kept(0, "( 0 or 9 ) = 1");
        kept(3, "2 - 2");
        kept(0, "9999 * 9999 * 9999 = " + "9999 * ( 9999 * 9999 )");
        // 65536 * 65536 wraps to 0; 32768 * 65536 is the least int
        kept(3, "256 * 256 * 256 * 256");
        kept(0, "128 * 256 * 256 * 256 < 0");
        // as much waits at once as can
        String deep = "0 or 1 = 0 + 1 * ";
        kept(0, deep + "( " + deep + "( " + deep + "( " + deep + "( " + deep + "1 ) ) ) )");
        kept(3, deep + "( " + deep + "( " + deep + "( " + deep + "( " + deep + "0 ) ) ) )");
        kept(2, "queue = 2");
        kept(1, "queue = 1");
        kept(1, "here = 2");
        kept(0, "which = 1");
        kept(0, "time = 1");
        kept(3, "time = 0");
    }

    private static void p30Tick() {
        DelayBounds x = Told.of(RATES + "node m fifo serves one ; node n fifo serves two ; flow f sends one over m n ; flow g sends one over n ;");
        told.due("tick of no UNITS", x.tick(), 0);
        told.due("not BUSY without UNITS", x.node(0, 4), 0);
        x.put(0, 2);
        x.put(1, 2);
        told.due("two of g", x.tick(), 2);
        told.due("what came is there", x.node(1, 3), 1);
        told.due("BUSY for 0: none is left of those", x.node(1, 4), 0);
        told.due("m is BUSY", x.node(0, 4), 1);
        told.due("one of f", x.tick(), 1);
        told.due("the other", x.tick(), 1);
        told.due("time", x.count(3), 4);
        told.due("none is there", x.count(4), 0);
        for (int i = 4; i < 60; i++) {
            told.due("tick at " + i, x.tick(), 0);
        }
        told.due("tick at 60", x.tick(), NONE);
        told.due("time 60", x.count(3), 60);
    }

    /** A NODE that serves by wait: none, two, none, two; anew when it was not BUSY. */
    private static void p30Busy() {
        DelayBounds x = Told.of(RATES + "node n fifo serves wait ; flow f sends one over n ;");
        x.put(0, 3);
        int[] gone = {0, 2, 0, 1, 0, 0};
        int[] busy = {1, 2, 3, 0, 0, 0};
        for (int i = 0; i < gone.length; i++) {
            told.due("gone by tick " + i, x.tick(), gone[i]);
            told.due("busy behind tick " + i, x.node(0, 4), busy[i]);
        }
        x.put(0, 1);
        told.due("anew", x.tick(), 0);
        told.due("and on", x.tick(), 1);
    }

    /** Put h, g, f, f, g, h, a TICK of three, and which are left. */
    private static void served(String kind, int f, int g, int h) {
        DelayBounds x = Told.of(RATES + "node n " + kind
            + " serves three ; flow f sends one over n ; flow g sends one over n ; flow h sends one over n ;");
        int[] order = {2, 1, 0, 0, 1, 2};
        for (int flow : order) {
            x.put(flow, 1);
        }
        x.put(2, 1);
        told.due(kind + " serves three", x.tick(), 3);
        told.due(kind + ": f left", x.flow(0, 2), f);
        told.due(kind + ": g left", x.flow(1, 2), g);
        told.due(kind + ": h left", x.flow(2, 2), h);
    }

    private static void p30Which() {
        served("fifo", 1, 1, 2);
        served("blind", 2, 1, 1);
        served("first", 0, 1, 3);
        served("fair", 1, 1, 2);
        // fair with two FLOWS that have any: g, h, g; and they come on as they were served
        DelayBounds x = Told.of(RATES + "node n fair serves three ; node m fifo serves one ; flow f sends one over m ; "
            + "flow g sends one over n m ; flow h sends one over n m ;");
        x.put(2, 3);
        x.put(1, 2);
        x.tick();
        int[] due = {1, 2, 1, 2, 2};
        for (int flow : due) {
            told.due("m serves", x.serves(1), flow);
            x.tick();
        }
        told.due("all are GONE", x.count(5), 5);
        // blind: the one that came last is served, and comes on, first
        DelayBounds y = Told.of(RATES + "node n blind serves three ; node m fifo serves one ; "
            + "flow f sends one over n m ; flow g sends one over n m ;");
        y.put(0, 2);
        y.put(1, 1);
        y.tick();
        told.due("the last comes first", y.serves(1), 1);
    }

    /** Two NODES send to a third in one TICK: by NODES, behind what is there. */
    private static void p30ByNodes() {
        DelayBounds x = Told.of(RATES + "node a fifo serves one ; node b fifo serves one ; node c fifo serves one ; "
            + "flow f sends one over b c ; flow g sends one over a c ; flow h sends one over c ;");
        x.put(2, 2);
        x.put(0, 1);
        x.put(1, 1);
        x.tick();
        int[] due = {2, 1, 0};
        for (int flow : due) {
            told.due("c serves", x.serves(2), flow);
            told.due("one is GONE", x.tick(), 1);
        }
        told.due("LATE: h", x.latest(2), 2);
        told.due("LATE: g", x.latest(1), 3);
        told.due("LATE: f", x.latest(0), 4);
    }

    private static void p31Judged() {
        DelayBounds x = Told.of(RATES + "node n fifo serves one ; flow f sends one over n ; flow g sends one over n ;");
        told.due("no RUN", x.judged(0), NONE);
        told.due("no RUN: GONE", x.judged(1), 0);
        told.due("no RUN: LATE", x.judged(2), NONE);
        told.due("no RUN: there", x.judged(3), 0);
        x.put(0, 7);
        x.tick();
        told.due("run", Told.run(x, "put f 9;put f 9;put f 9;put f 9;put g 5;put g 4;put g 1;tick;tick;put g 2;"), 0);
        told.due("the first that can't be", x.judged(0), 4);
        told.due("GONE at last", x.judged(1), 2);
        told.due("how LATE", x.judged(2), 2);
        told.due("there at last", x.judged(3), 40);
        told.due("what is, is as ahead", x.count(4), 6);
        told.due("so is the time", x.count(3), 1);
        told.due("judged 4", x.judged(4), -2);
        for (int wild : WILD) {
            told.due("judged " + wild, x.judged(wild), -2);
        }
        told.due("run", Told.run(x, "put f 1;tick;tick;"), 0);
        told.due("none that can't be", x.judged(0), NONE);
        told.due("one is GONE", x.judged(1), 1);
    }

    private static void p32Fits() {
        DelayBounds x = Told.of(CURVES + "node n fifo serves quick ; flow f sends slow over n ; flow g sends high over n ; loses which = 0 ;");
        told.due("nothing PUT", x.fits(0), true);
        x.put(0, 2);
        told.due("2 at once", x.fits(0), true);
        x.tick();
        x.put(0, 1);
        told.due("3 in two", x.fits(0), true);
        told.due("mark", x.mark(0, false), true);
        x.put(0, 1);
        told.due("4 in two", x.fits(0), false);
        x.tick();
        told.due("it stays so", x.fits(0), false);
        told.due("back", x.mark(0, true), true);
        told.due("3 in two again", x.fits(0), true);
        x.tick();
        x.tick();
        x.put(0, 2);
        told.due("2 at 3, 5 in four", x.fits(0), true);
        x.put(0, 1);
        told.due("3 at 3", x.fits(0), false);
        told.due("another FLOW", x.fits(1), true);
        told.due("no flow", x.fits(2), false);
        for (int wild : WILD) {
            told.due("fits of " + wild, x.fits(wild), false);
        }
        DelayBounds y = Told.of("curve c is 0 0 1 again 1 adds 1 ; node n fifo serves c ; flow f sends c over n ;");
        y.put(0, 1);
        told.due("1 at once of 0: time and 1 more", y.fits(0), false);
    }

    private static void p33Holds() {
        // total 2; serves none, then two of each
        DelayBounds x = Told.of(RATES + "curve send is 0 2 again 1 adds 0 ; node n fifo serves wait ; flow f sends send over n ;");
        told.due("total", x.total(0), 1);
        told.due("none is GONE", x.holds(0), true);
        x.put(0, 2);
        x.tick();
        x.tick();
        told.due("LATE by 2, 1 was promised", x.latest(0), 2);
        told.due("so it does not hold", x.holds(0), false);
        told.due("no flow", x.holds(1), false);
        for (int wild : WILD) {
            told.due("holds of " + wild, x.holds(wild), false);
        }
        DelayBounds y = Told.of(TANDEM);
        y.put(1, 2);
        y.tick();
        told.due("LATE by 1, as promised", y.latest(1), 1);
        told.due("holds", y.holds(1), true);
        DelayBounds z = Told.of(TOO_MUCH);
        z.put(0, 9);
        for (int i = 0; i < 9; i++) {
            z.tick();
        }
        told.due("LATE", z.latest(0), 7);
        told.due("holds, for they DIVERGE", z.holds(0), true);
    }

    private static void p34Serves() {
        DelayBounds x = Told.of(RATES + "node n first serves wait ; node m blind serves one ; flow f sends one over n ; flow g sends one over n m ;");
        told.due("no UNITS", x.serves(0), NONE);
        x.put(1, 1);
        x.put(0, 1);
        told.due("it serves none", x.serves(0), NONE);
        x.tick();
        told.due("the least number", x.serves(0), 0);
        x.tick();
        told.due("none there", x.serves(0), NONE);
        told.due("g at m", x.serves(1), 1);
        told.due("no node", x.serves(2), NONE);
        for (int wild : WILD) {
            told.due("serves of " + wild, x.serves(wild), NONE);
        }
        for (int i = 2; i < 59; i++) {
            x.tick();
        }
        x.put(0, 1);
        x.tick();
        told.due("time", x.count(3), 60);
        told.due("at 60, as if there were a TICK", x.serves(0), 0);
    }

    private static void p35Latest() {
        DelayBounds x = Told.of(RATES + "node n blind serves one ; flow f sends one over n ; flow g sends one over n ;");
        x.put(0, 1);
        x.put(1, 1);
        told.due("none is GONE", x.latest(1), NONE);
        x.tick();
        told.due("LATE by 1", x.latest(1), 1);
        told.due("f is there", x.latest(0), NONE);
        x.put(1, 1);
        x.tick();
        x.tick();
        told.due("f, LATE by 3", x.latest(0), 3);
        told.due("g, still by 1", x.latest(1), 1);
        x.put(0, 1);
        x.tick();
        told.due("the most", x.latest(0), 3);
        told.due("no flow", x.latest(2), NONE);
        for (int wild : WILD) {
            told.due("latest of " + wild, x.latest(wild), NONE);
        }
    }

    private static void p36Oldest() {
        DelayBounds x = Told.of(RATES + "node n fifo serves one ; curve lazy is 0 0 1 again 1 adds 1 ; node m fifo serves lazy ; "
            + "flow f sends one over n m ; flow g sends one over m ;");
        told.due("none is there", x.oldest(0), NONE);
        x.tick();
        x.put(0, 1);
        told.due("BORN at 1", x.oldest(0), 1);
        x.tick();
        x.put(0, 1);
        told.due("the first BORN, further on", x.oldest(0), 1);
        told.due("g is not there", x.oldest(1), NONE);
        x.tick();
        x.tick();
        told.due("the other", x.oldest(0), 2);
        told.due("no flow", x.oldest(2), NONE);
        for (int wild : WILD) {
            told.due("oldest of " + wild, x.oldest(wild), NONE);
        }
    }

    private static void p37See() {
        DelayBounds x = new DelayBounds();
        told.due("t 61", x.see(61, 0, true), false);
        told.due("much 1000", x.see(0, 1000, true), false);
        for (int wild : WILD) {
            told.due("see at " + wild, x.see(wild, 0, true), false);
            told.due("see so much: " + wild, x.see(0, wild, false), false);
        }
        told.due("none is SEEN", x.count(8), 0);
        told.due("the last ones", x.see(60, 999, false), true);
        for (int i = 1; i < 8; i++) {
            told.due("see", x.see(0, 0, true), true);
        }
        told.due("a ninth", x.see(0, 0, true), false);
        told.due("8 are", x.count(8), 8);
    }

    private static void p38Who() {
        DelayBounds x = curves();
        told.due("all", x.who(), 63);
        x.see(2, 3, true);
        told.due("slow, step, quick, high: 3 or more at 2", x.who(), 1 + 2 + 4 + 16);
        x.see(3, 4, false);
        told.due("step: less than 4 at 3", x.who(), 2);
        x.see(3, 3, false);
        told.due("none", x.who(), 0);
        told.due("of no CURVES", new DelayBounds().who(), 0);
    }

    private static void p39Look() {
        DelayBounds x = curves();
        // at 0: 0 0 0 0 9 0; 1: 2 0 4 0 18 1; 2: 3 3 8 0 27 1; 3: 4 3 12 2 36 9, none alike
        told.due("all six", x.look(), 3);
        x.see(1, 0, true);
        x.see(1, 1, false);
        told.due("step and idle", x.look(), 2);
        x.see(2, 1, true);
        told.due("step alone", x.look(), NONE);
        x.see(2, 9, true);
        told.due("none", x.look(), NONE);
        told.due("of no CURVES", new DelayBounds().look(), NONE);
        DelayBounds y = Told.of("curve a is 1 again 1 adds 1 ; curve b is 1 2 again 1 adds 1 ; ");
        told.due("two that are alike everywhere", y.look(), NONE);
        // at 1 three of four are alike, at 2 two and two
        DelayBounds z = Told.of("curve a is 0 0 0 again 1 adds 0 ; curve b is 0 0 0 0 again 1 adds 0 ; "
            + "curve c is 0 0 1 again 1 adds 0 ; curve d is 0 1 1 again 1 adds 0 ; ");
        told.due("the least of the greatest", z.look(), 2);
    }

    private static void p40Loads() {
        // seed 1 draws 16838 5758 10113 17515 31051 5627: of one FLOW 2, 3 and 3 are PUT
        DelayBounds x = Told.of(RATES + "node n fifo serves one ; flow f sends one over n ;");
        told.due("GONE", x.loads(1, 3, 0), 3);
        told.due("there", x.loads(1, 3, 1), 5);
        told.due("LATE", x.loads(1, 3, 2), 2);
        told.due("all is as ahead", x.count(3) + x.count(4) + x.count(5), 0);
        // of two FLOWS: 2 of the first one, 3 of the second one, 3 of the second one
        DelayBounds y = Told.of(RATES + "node m fifo serves two ; node n fifo serves one ; "
            + "flow f sends one over m ; flow g sends one over n ;");
        told.due("GONE of two", y.loads(1, 3, 0), 4);
        told.due("there of two", y.loads(1, 3, 1), 4);
        x.put(0, 5);
        for (int i = 0; i < 5; i++) {
            x.tick();
        }
        told.due("the most LATE ahead, too", x.loads(1, 1, 2), 5);
        told.due("GONE in these", x.loads(1, 1, 0), 1);
        for (int i = 5; i < 58; i++) {
            x.tick();
        }
        told.due("as far as these can be", x.loads(1, 60, 0), 2);
        told.due("there", x.loads(1, 60, 1), 3);
        x.tick();
        x.tick();
        told.due("at 60", x.loads(1, 60, 0), 0);
        told.due("seed 10000", x.loads(10000, 1, 0), -2);
        told.due("61 TICKS", x.loads(1, 61, 0), -2);
        told.due("0 TICKS", x.loads(1, 0, 0), -2);
        told.due("what 3", x.loads(1, 1, 3), -2);
        for (int wild : WILD) {
            told.due("loads by " + wild, x.loads(wild, 1, 0), -2);
            told.due("loads of so many: " + wild, x.loads(1, wild, 0), -2);
            told.due("loads what " + wild, x.loads(1, 1, wild), -2);
        }
        DelayBounds z = new DelayBounds();
        told.due("none is GONE", z.loads(9999, 60, 2), NONE);
    }

    private static void p41Mark() {
        DelayBounds x = Told.of(RATES + "node n fifo serves wait ; flow f sends one over n ; loses queue = 3 ;");
        told.due("nothing is on it", x.mark(0, true), false);
        x.put(0, 5);
        x.tick();
        x.see(1, 1, true);
        told.due("laid", x.mark(0, false), true);
        told.due("nothing is on the other", x.mark(1, true), false);
        x.tick();
        x.put(0, 1);
        x.see(2, 2, true);
        told.due("laid", x.mark(1, false), true);
        Told.run(x, "tick; tick;");
        Told.feed(x, "curve");
        told.due("back", x.mark(0, true), true);
        int[] due = {4, 1, 1, 1, 3, 0, 2, 2, 1, 5};
        for (int what = 0; what < due.length; what++) {
            told.due("count " + what + " on MARK 0", x.count(what), due[what]);
        }
        told.due("BUSY on MARK 0", x.node(0, 4), 1);
        told.due("latest on MARK 0", x.latest(0), NONE);
        told.due("oldest on MARK 0", x.oldest(0), 0);
        told.due("tick goes on from there", x.tick(), 2);
        told.due("back to the other", x.mark(1, true), true);
        told.due("time there", x.count(3), 2);
        told.due("there", x.count(4), 2);
        told.due("GONE there", x.count(5), 2);
        told.due("SEEN there", x.count(8), 2);
        told.due("latest there", x.latest(0), 2);
        told.due("back once more", x.mark(0, true), true);
        told.due("time 1", x.count(3), 1);
        DelayBounds y = Told.of(RATES + "node n fifo serves two ; flow f sends two over n ;");
        y.mark(1, false);
        for (int i = 0; i < 59; i++) {
            y.tick();
        }
        y.put(0, 9);
        y.see(2, 5, true);
        y.see(3, 8, true);
        y.mark(0, false);
        told.due("back to the begin", y.mark(1, true), true);
        y.see(1, 2, false);
        y.see(1, 2, true);
        told.due("none is SEEN so", y.who(), 0);
        told.due("fits", y.fits(0), true);
        told.due("back to the end", y.mark(0, true), true);
        told.due("who there", y.who(), 4);
        told.due("fits not", y.fits(0), false);
        told.due("MARK 2", x.mark(2, false), false);
        for (int wild : WILD) {
            told.due("mark " + wild, x.mark(wild, false), false);
            told.due("mark back " + wild, x.mark(wild, true), false);
        }
    }

    private static void p42Count() {
        DelayBounds x = Told.of(RATES + "node m fifo serves one ; node n fifo serves one ; flow f sends one over n ; "
            + "flow g sends one over m ; flow h sends one over m n ; loses queue = 4 ;");
        x.put(0, 6);
        x.put(1, 2);
        x.tick();
        x.tick();
        Told.run(x, "tick; put g 1; tick;");
        x.see(0, 0, true);
        Told.feed(x, "seven..");
        int[] due = {4, 2, 3, 2, 2, 4, 2, 3, 1, 7};
        for (int what = 0; what < due.length; what++) {
            told.due("count " + what, x.count(what), due[what]);
        }
        told.due("count 10", x.count(10), NONE);
        for (int wild : WILD) {
            told.due("count " + wild, x.count(wild), NONE);
        }
    }

    public static void main(String[] args) {
        p01ANewObject();
        p02Feed();
        p05Curve();
        p06Node();
        p07Flow();
        p08Way();
        p09Value();
        p10Fold();
        p11Unfold();
        p12Star();
        p13Sub();
        p14Late();
        p15Behind();
        p16Above();
        p17Rounds();
        p18Delay();
        p19Arrives();
        p20Left();
        p21Total();
        p22Once();
        p23Full();
        p24Comes();
        p25Saves();
        p26Worst();
        p27Tries();
        p28Tune();
        p29Put();
        p29Loses();
        p30Tick();
        p30Busy();
        p30Which();
        p30ByNodes();
        p31Judged();
        p32Fits();
        p33Holds();
        p34Serves();
        p35Latest();
        p36Oldest();
        p37See();
        p38Who();
        p39Look();
        p40Loads();
        p41Mark();
        p42Count();
        told.end();
    }
}
