/** Boundary cases of what calls are asked for: the first and the last that there is, one beyond these, the farthest. */
final class EdgesOfAnswers extends Edges {
    /** Stands for a NoSuchElementException. */
    private static final long THROWN = Long.MIN_VALUE;

    /** A call by its arguments. */
    private interface Asked {
        long of(DelayBounds x, int... by);
    }

    /** Six CURVES: i + t. */
    private static final String SIX = "curve a is 0 again 1 adds 1;curve b is 1 again 1 adds 1;curve c is 2 again 1 adds 1;"
        + "curve d is 3 again 1 adds 1;curve e is 4 again 1 adds 1;curve f is 5 again 1 adds 1;";
    /** As much as there can be; FLOWS send nothing, so that any CURVE serves them. */
    private static final String FULL = "curve a is 0 again 1 adds 0;" + SIX.substring(SIX.indexOf("curve b"))
        + "node m blind serves a;node n first serves b;node o fifo serves c;node p fair serves f;"
        + "flow w sends a over m n o p;flow x sends a over p o n m;flow y sends a over n m p o;flow z sends a over o p m n;";
    /** As little as has one of each. */
    private static final String SINGLE = "curve a is 0 again 1 adds 1;node n fifo serves a;flow f sends a over n;";

    private static long answer(Asked call, DelayBounds x, int... by) {
        try {
            return call.of(x, by);
        } catch (java.util.NoSuchElementException e) {
            return THROWN;
        }
    }

    /** Each argument in its turn, the others at their first: its ends are answered, beyond these it is refused. */
    private static void ranges(DelayBounds x, long refused, Asked call, int[]... ends) {
        for (int i = 0; i < ends.length; i++) {
            for (int by : new int[] {ends[i][0], ends[i][1]}) {
                due(told(ends, i, by) + " is answered", answer(call, x, arguments(ends, i, by)) != refused, true);
            }
            for (int by : new int[] {ends[i][0] - 1, ends[i][1] + 1, LEAST, MOST}) {
                due(told(ends, i, by), answer(call, x, arguments(ends, i, by)), refused);
            }
        }
    }

    private static int[] arguments(int[][] ends, int i, int by) {
        int[] all = new int[ends.length];
        for (int k = 0; k < all.length; k++) {
            all[k] = k == i ? by : ends[k][0];
        }
        return all;
    }

    private static String told(int[][] ends, int i, int by) {
        return "by " + java.util.Arrays.toString(arguments(ends, i, by));
    }

    /** As ranges, for the NET with all, for the one with one of each, and for none. */
    private static void inAllNets(long refused, Asked call, int[][] full, int[][] single) {
        ranges(Told.of(FULL), refused, call, full);
        ranges(Told.of(SINGLE), refused, call, single);
        due("of nothing", answer(call, new DelayBounds(), arguments(single, 0, single[0][0])), refused);
    }

    private static int[] to(int last) {
        return new int[] {0, last};
    }

    private static int[][] all(int[]... ends) {
        return ends;
    }

    static void at512Calls() {
        begin("An object is used for at most 512 calls after it has been made;");
        DelayBounds x = new DelayBounds();
        for (int i = 0; i < 10; i++) {
            x.feed(0, 0, 0);
        }
        int calls = 10;
        for (int at = 0; at < SINGLE.length(); at += 24, calls++) {
            x.feed(Told.eight(SINGLE, at), Told.eight(SINGLE, at + 8), Told.eight(SINGLE, at + 16));
        }
        due("net", x.net(), 0);
        calls++;
        for (int t = 0; t < 60; t++, calls += 3) {
            due("put", x.put(0, 1), 1);
            due("tick", x.tick(), 1);
            due("time", x.count(3), t + 1);
        }
        for (; calls < 510; calls++) {
            due("total", x.total(0), 0);
        }
        due("the 511th", x.count(5), 60);
        due("the 512th", x.latest(0), 1);
    }

    static void theConstant() {
        term("The constants: `NONE = -1`: None.");
        due("NONE", DelayBounds.NONE, -1);
    }

    static void aNewObject() {
        promise(1, "Nothing.");
        DelayBounds x = new DelayBounds();
        for (int what = 0; what < 10; what++) {
            due("count " + what, x.count(what), 0);
        }
        due("rounds", x.rounds(), 1);
        due("who", x.who(), 0);
        due("look", x.look(), NONE);
        due("worst", x.worst(), NONE);
        due("tick", x.tick(), 0);
        due("another object is none the wiser", new DelayBounds().count(3), 0);
        DelayBounds y = Told.of(FULL);
        due("nor is one behind a NET", new DelayBounds().count(0) + y.count(0), 6);
    }

    static void curveAnswers() {
        promise(5, "Of a CURVE, what 0: how many VALUES, 1: again, 2: adds, 3: RATE, 4: BENDS; NONE: others.");
        inAllNets(NONE, (x, by) -> x.curve(by[0], by[1]), all(to(5), to(4)), all(to(0), to(4)));
        DelayBounds x = Told.of("curve a is 0 again 1 adds 99;curve b is 0 0 0 0 0 0 0 9 again 8 adds 9;");
        int[][] due = {{1, 1, 99, 99000, 3, NONE}, {8, 8, 9, 1125, 0, NONE}};
        for (int curve = 0; curve < 2; curve++) {
            for (int what = 0; what < 6; what++) {
                due("curve " + curve + " what " + what, x.curve(curve, what), due[curve][what]);
            }
        }
    }

    static void nodeAnswers() {
        promise(6, "Of a NODE, what 0: KIND (0 blind, 1 first, 2 fifo, 3 fair), 1: the CURVE, 2: FLOWS over it, as bits, "
            + "3: UNITS there, 4: for how many TICKS it is BUSY; NONE: others.");
        inAllNets(NONE, (x, by) -> x.node(by[0], by[1]), all(to(3), to(4)), all(to(0), to(4)));
        DelayBounds x = Told.of(FULL + "loses which = 1;");
        int[] curves = {0, 1, 2, 5};
        for (int node = 0; node < 4; node++) {
            due("KIND", x.node(node, 0), node);
            due("CURVE", x.node(node, 1), curves[node]);
            due("all FLOWS", x.node(node, 2), 15);
        }
        x.put(0, 9);
        x.put(1, 9);
        due("UNITS at m", x.node(0, 3), 9);
        due("none at p: they are LOST", x.node(3, 3), 0);
        x.tick();
        due("m is BUSY", x.node(0, 4), 1);
        due("p is not", x.node(3, 4), 0);
        due("no FLOW goes there", Told.of("curve a is 0 again 1 adds 1;node n fifo serves a;").node(0, 2), 0);
        DelayBounds y = Told.of("curve a is 0 again 1 adds 1;node m fifo serves a;node n fifo serves a;flow e sends a over m;"
            + "flow f sends a over n;flow g sends a over m;flow h sends a over m n;");
        due("FLOWS 0, 2 and 3", y.node(0, 2), 1 + 4 + 8);
        due("FLOWS 1 and 3", y.node(1, 2), 2 + 8);
    }

    static void flowAnswers() {
        promise(7, "Of a FLOW, what 0: the CURVE, 1: how many NODES, 2: UNITS there, 3: GONE, 4: LOST; NONE: others.");
        inAllNets(NONE, (x, by) -> x.flow(by[0], by[1]), all(to(3), to(4)), all(to(0), to(4)));
        DelayBounds x = Told.of("curve a is 0 again 1 adds 1;curve b is 0 again 1 adds 9;node m fifo serves a;node n fifo serves a;"
            + "flow f sends b over m n;flow g sends a over n;loses which = 0 and queue = 2;");
        x.put(0, 9);
        x.put(1, 1);
        int[][] due = {{1, 2, 2, 0, 7}, {0, 1, 1, 0, 0}};
        int[][] behind = {{1, 2, 2, 0, 7}, {0, 1, 0, 1, 0}};
        for (int what = 0; what < 5; what++) {
            due("f what " + what, x.flow(0, what), due[0][what]);
            due("g what " + what, x.flow(1, what), due[1][what]);
        }
        x.tick();
        for (int what = 0; what < 5; what++) {
            due("f behind a TICK, at both NODES, what " + what, x.flow(0, what), behind[0][what]);
            due("g behind a TICK, what " + what, x.flow(1, what), behind[1][what]);
        }
    }

    static void wayAnswers() {
        promise(8, "The NODE of the i-th (from 0) hop of a FLOW; NONE: others.");
        inAllNets(NONE, (x, by) -> x.way(by[0], by[1]), all(to(3), to(3)), all(to(0), to(0)));
        DelayBounds x = Told.of(FULL);
        int[][] due = {{0, 1, 2, 3}, {3, 2, 1, 0}, {1, 0, 3, 2}, {2, 3, 0, 1}};
        for (int flow = 0; flow < 4; flow++) {
            for (int hop = 0; hop < 4; hop++) {
                due("hop " + hop + " of " + flow, x.way(flow, hop), due[flow][hop]);
            }
        }
        DelayBounds y = Told.of("curve a is 0 again 1 adds 1;node m fifo serves a;node n fifo serves a;"
            + "flow f sends a over n m;flow g sends a over n;");
        due("the last hop of f", y.way(0, 1), 0);
        due("g has none there", y.way(1, 1), NONE);
    }

    static void valueAnswers() {
        promise(9, "VALUE; NONE: others.");
        inAllNets(NONE, (x, by) -> x.value(by[0], by[1]), all(to(5), to(120)), all(to(0), to(120)));
        due("0 is not NONE", Told.of(FULL).value(0, 120), 0);
        due("of the last at the last", Told.of(FULL).value(5, 120), 125);
    }

    static void foldOthers() {
        promise(10, "NONE: others.");
        inAllNets(NONE, (x, by) -> x.fold(by[0], by[1], by[2]), all(to(5), to(5), to(120)), all(to(0), to(0), to(120)));
        due("of the last at the last", Told.of(SIX).fold(5, 5, 120), 130);
    }

    static void unfoldOthers() {
        promise(11, "NoSuchElementException: others.");
        inAllNets(THROWN, (x, by) -> x.unfold(by[0], by[1], by[2]), all(to(5), to(5), to(60)), all(to(0), to(0), to(60)));
        due("of the last at the last", Told.of(SIX).unfold(5, 5, 60), 60);
        due("-1 is none of these", Told.of(SIX).unfold(0, 1, 0), -1);
    }

    static void starOthers() {
        promise(12, "NONE: others.");
        inAllNets(NONE, (x, by) -> x.star(by[0], by[1]), all(to(5), to(60)), all(to(0), to(60)));
        due("of the last at the last", Told.of(SIX).star(5, 60), 65);
    }

    static void subOthers() {
        promise(13, "SUB; false: others.");
        inAllNets(0, (x, by) -> x.sub(by[0]) ? 1 : 0, all(to(5)), all(to(0)));
        due("false", Told.of("curve a is 0 1 3 again 1 adds 1;").sub(0), false);
    }

    static void lateOthers() {
        promise(14, "NONE: others,");
        ranges(Told.of(SIX), NONE, (x, by) -> x.late(by[0], by[1]), to(5), to(5));
        due("of the last and the first", Told.of(SIX).late(5, 0), 5);
    }

    static void behindOthers() {
        promise(15, "BEHIND of two CURVES; NoSuchElementException: others.");
        inAllNets(THROWN, (x, by) -> x.behind(by[0], by[1]), all(to(5), to(5)), all(to(0), to(0)));
        due("-1 is none of these", Told.of(SIX).behind(0, 1), -1);
        due("of the last and the first", Told.of(SIX).behind(5, 0), 5);
    }

    static void aboveOthers() {
        promise(16, "NONE: others,");
        DelayBounds x = Told.of(SIX);
        due("of the last and the first", x.above(5, 0), 0);
        for (int wild : new int[] {-1, 6, LEAST, MOST}) {
            due("of " + wild, x.above(wild, 0), NONE);
            due("with " + wild, x.above(5, wild), NONE);
        }
    }

    static void delayOthers() {
        promise(18, "NONE: others,");
        inAllNets(NONE, (x, by) -> x.delay(by[0], by[1]), all(to(3), to(3)), all(to(0), to(0)));
    }

    static void arrivesOthers() {
        promise(19, "NONE: others,");
        inAllNets(NONE, (x, by) -> x.arrives(by[0], by[1], by[2]), all(to(3), to(3), to(60)), all(to(0), to(0), to(60)));
    }

    static void leftOthers() {
        promise(20, "NONE: others,");
        inAllNets(NONE, (x, by) -> x.left(by[0], by[1], by[2]), all(to(3), to(3), to(60)), all(to(0), to(0), to(60)));
    }

    static void totalOthers() {
        promise(21, "NONE: others,");
        inAllNets(NONE, (x, by) -> x.total(by[0]), all(to(3)), all(to(0)));
    }

    static void onceOthers() {
        promise(22, "NONE: others,");
        inAllNets(NONE, (x, by) -> x.once(by[0]), all(to(3)), all(to(0)));
    }

    static void fullOthers() {
        promise(23, "NONE: others,");
        inAllNets(NONE, (x, by) -> x.full(by[0]), all(to(3)), all(to(0)));
    }

    static void comesOthers() {
        promise(24, "NONE: others,");
        inAllNets(NONE, (x, by) -> x.comes(by[0], by[1]), all(to(3), to(60)), all(to(0), to(60)));
    }

    static void savesOthers() {
        promise(25, "NoSuchElementException: others,");
        inAllNets(THROWN, (x, by) -> x.saves(by[0]), all(to(3)), all(to(0)));
    }

    static void triesOthers() {
        promise(27, "NONE: others,");
        inAllNets(NONE, (x, by) -> x.tries(by[0], by[1], by[2]), all(to(3), to(5), to(3)), all(to(0), to(0), to(0)));
    }

    static void tuneOthers() {
        promise(28, "NONE: others,");
        inAllNets(NONE, (x, by) -> x.tune(by[0], by[1]), all(to(3), to(3)), all(to(0), to(0)));
    }

    static void putOthers() {
        promise(29, "NONE: others,");
        inAllNets(NONE, (x, by) -> x.put(by[0], by[1]), all(to(3), new int[] {1, 9}), all(to(0), new int[] {1, 9}));
    }

    static void fitsOthers() {
        promise(32, "false: others.");
        inAllNets(0, (x, by) -> x.fits(by[0]) ? 1 : 0, all(to(3)), all(to(0)));
    }

    static void holdsOthers() {
        promise(33, "false: others.");
        inAllNets(0, (x, by) -> x.holds(by[0]) ? 1 : 0, all(to(3)), all(to(0)));
    }

    /** A FLOW at each of four NODES, two UNITS of each, one of them GONE. */
    private static DelayBounds busyNet() {
        DelayBounds x = Told.of("curve a is 0 again 1 adds 1;node m blind serves a;node n first serves a;node o fifo serves a;"
            + "node p fair serves a;flow w sends a over m;flow x sends a over n;flow y sends a over o;flow z sends a over p;");
        for (int flow = 0; flow < 4; flow++) {
            x.put(flow, 2);
        }
        x.tick();
        return x;
    }

    static void servesOthers() {
        promise(34, "NONE: others,");
        ranges(busyNet(), NONE, (x, by) -> x.serves(by[0]), to(3));
        for (int node = 0; node < 4; node++) {
            due("at " + node, busyNet().serves(node), node);
        }
    }

    static void latestOthers() {
        promise(35, "NONE: others,");
        ranges(busyNet(), NONE, (x, by) -> x.latest(by[0]), to(3));
    }

    static void oldestOthers() {
        promise(36, "NONE: others,");
        ranges(busyNet(), NONE, (x, by) -> x.oldest(by[0]), to(3));
    }

    static void seeOthers() {
        promise(37, "false: others,");
        ranges(new DelayBounds(), 0, (x, by) -> x.see(by[0], by[1], true) ? 1 : 0, to(60), to(999));
        ranges(new DelayBounds(), 0, (x, by) -> x.see(by[0], by[1], false) ? 1 : 0, to(60), to(999));
    }

    static void loadsOthers() {
        promise(40, "-2: others.");
        ranges(Told.of(SINGLE), -2, (x, by) -> x.loads(by[0], by[1], by[2]), to(9999), new int[] {1, 60}, to(2));
        ranges(new DelayBounds(), -2, (x, by) -> x.loads(by[0], by[1], by[2]), to(9999), new int[] {1, 60}, to(2));
    }

    static void markOthers() {
        promise(41, "false: none such,");
        ranges(Told.of(SINGLE), 0, (x, by) -> x.mark(by[0], false) ? 1 : 0, to(1));
    }

    static void judgedOthers() {
        promise(31, "-2: others.");
        ranges(Told.of(SINGLE), -2, (x, by) -> x.judged(by[0]), to(3));
    }

    static void countAnswers() {
        promise(42, "What 0: CURVES, 1: NODES, 2: FLOWS, 3: time, 4: UNITS there, 5: GONE, 6: LOST, 7: lines of the RUN, "
            + "8: SEEN, 9: signs on the TAPE. NONE for another what.");
        DelayBounds x = Told.of(SIX + "node m fifo serves a;node n fifo serves a;node o fifo serves a;node p fifo serves a;"
            + "flow w sends a over m n o p;flow x sends a over p;flow y sends a over n m p o;flow z sends a over o p m n;"
            + "loses queue = 9;");
        ranges(x, NONE, (y, by) -> y.count(by[0]), to(9));
        for (int flow = 0; flow < 4; flow++) {
            x.put(flow, 9);
        }
        x.put(1, 2);
        ticks(x, 60);
        Told.run(x, times("tick;", 40));
        for (int i = 0; i < 8; i++) {
            x.see(0, 0, true);
        }
        Told.feed(x, times(" ", 1000));
        int[] due = {6, 4, 4, 60, 0, 36, 2, 40, 8, 1000};
        for (int what = 0; what < 10; what++) {
            due("the most: count " + what, x.count(what), due[what]);
        }
        DelayBounds y = Told.of(SIX + "node m fifo serves a;flow w sends a over m;");
        for (int i = 0; i < 4; i++) {
            y.put(0, 9);
        }
        y.put(0, 4);
        due("40 UNITS", y.count(4), 40);
    }
}
