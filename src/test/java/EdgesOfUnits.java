/** Boundary cases of UNITS, TICKS, RUNS that are judged, what is SEEN, LOADS and MARKS. */
final class EdgesOfUnits extends Edges {
    /** one: t, two: 2 t, three: 3 t, zero: 0, wait: none and one by turns, slow: 0 2 3 4 .. (t + 1). */
    private static final String LINES = "curve one is 0 again 1 adds 1 ; curve two is 0 again 1 adds 2 ; "
        + "curve three is 0 again 1 adds 3 ; curve zero is 0 again 1 adds 0 ; curve wait is 0 0 1 again 2 adds 1 ; "
        + "curve slow is 0 2 again 1 adds 1 ; ";
    private static final String[] KINDS = {"blind", "first", "fifo", "fair"};

    /** f, g and h over one NODE. */
    private static DelayBounds three(String kind, String serves) {
        return Told.of(LINES + "node n " + kind + " serves " + serves
            + " ; flow f sends one over n ; flow g sends one over n ; flow h sends one over n ; ");
    }

    private static DelayBounds alone(String kind, String serves) {
        return Told.of(LINES + "node n " + kind + " serves " + serves + " ; flow f sends slow over n ; ");
    }

    /** The FLOWS of the UNITS at NODE 0, as they are served one by one. */
    private static void dueOrder(String what, DelayBounds x, int... flows) {
        for (int i = 0; i < flows.length; i++) {
            due(what + ": " + i, x.serves(0), flows[i]);
            due(what + ": one is GONE", x.tick(), 1);
        }
        due(what + ": none is there", x.serves(0), NONE);
    }

    // ---- PUT ----

    static void putIsBornThere() {
        term("UNITS: PUT so many of a FLOW: each is BORN at that time, at the first NODE of its way, behind all that "
            + "are there;");
        DelayBounds x = Told.of(LINES + "node m fifo serves one ; node n fifo serves one ; flow f sends one over n m ; "
            + "flow g sends one over n ; ");
        x.put(1, 1);
        x.put(0, 1);
        due("both at n", x.node(1, 3), 2);
        due("none at m", x.node(0, 3), 0);
        due("g is ahead", x.serves(1), 1);
        due("BORN at 0", x.oldest(0), 0);
        ticks(x, 59);
        x.put(0, 9);
        due("BORN at 59", x.oldest(0), 59);
        due("all nine", x.node(1, 3), 9);
    }

    static void put40() {
        term("not if more than 40 UNITS would be with all of these;");
        DelayBounds x = Told.of(LINES + "node m fifo serves zero ; node n fifo serves zero ; flow f sends one over m ; "
            + "flow g sends slow over n ; ");
        for (int i = 0; i < 4; i++) {
            due("nine", x.put(0, 9), 9);
        }
        due("41 would be, at both NODES", x.put(1, 5), NONE);
        due("none of these is there", x.node(1, 3), 0);
        due("nor was it PUT", x.fits(1), true);
        due("38 are", x.put(1, 2), 2);
        due("41 would be", x.put(1, 3), NONE);
        due("40 are", x.put(0, 2), 2);
        due("one more", x.put(1, 1), NONE);
        due("40 stay", x.count(4), 40);
        DelayBounds y = Told.of(LINES + "node m fifo serves one ; flow f sends one over m ; flow g sends one over m ; loses which ; ");
        for (int i = 0; i < 4; i++) {
            y.put(0, 9);
        }
        due("41 would be, though all would be LOST", y.put(1, 5), NONE);
        due("none is LOST", y.count(6), 0);
        due("40 would be, all are LOST", y.put(1, 4), 0);
        due("36 are", y.count(4), 36);
        y.tick();
        due("35 are: 5 more", y.put(0, 5), 5);
    }

    static void lostOneBehindTheOther() {
        term("each for which the E of loses is not 0 (one behind the other, as all is then, the LOST ones not there) "
            + "is LOST instead.");
        String[] laws = {"queue = 2", "queue = 0", "0 < queue", "here = 1", "here = 5", "2 - here", "0"};
        int[] kept = {2, 0, 1, 1, 5, 0, 5};
        for (int i = 0; i < laws.length; i++) {
            DelayBounds x = Told.of(LINES + "node m fifo serves one ; flow f sends one over m ; loses " + laws[i] + " ; ");
            due("5 where it loses " + laws[i], x.put(0, 5), kept[i]);
            due("LOST of the FLOW", x.flow(0, 4), 5 - kept[i]);
            due("LOST", x.count(6), 5 - kept[i]);
            due("there", x.count(4), kept[i]);
        }
    }

    static void putAnswers() {
        promise(29, "PUT (1 to 9): how many are not LOST;");
        DelayBounds x = alone("fifo", "one");
        due("0", x.put(0, 0), NONE);
        due("1", x.put(0, 1), 1);
        due("9", x.put(0, 9), 9);
        due("10", x.put(0, 10), NONE);
        due("-1", x.put(0, -1), NONE);
        due("the most", x.put(0, MOST), NONE);
        due("the least", x.put(0, LEAST), NONE);
        due("there", x.count(4), 10);
        due("0 is not NONE", Told.of(LINES + "node m fifo serves one ; flow f sends one over m ; loses 1 ; ").put(0, 9), 0);
    }

    static void putOthers() {
        promise(29, "NONE: others, it can't be.");
        DelayBounds x = alone("fifo", "one");
        due("no FLOW", x.put(1, 1), NONE);
        due("FLOW -1", x.put(-1, 1), NONE);
        for (int i = 0; i < 4; i++) {
            x.put(0, 9);
        }
        due("41", x.put(0, 5), NONE);
        ticks(x, 60);
        due("at 60", x.put(0, 1), NONE);
        due("nothing of that is there", x.count(4) + x.count(6), 0);
        due("of nothing", new DelayBounds().put(0, 1), NONE);
    }

    // ---- TICK ----

    static void tickByWhatWasAhead() {
        term("TICK, all by what was ahead:");
        DelayBounds x = Told.of(LINES + "node m fifo serves two ; node n fifo serves two ; flow f sends one over m n ; "
            + "flow g sends one over n m ; ");
        x.put(0, 1);
        x.put(1, 1);
        due("none comes by two NODES at once", x.tick(), 0);
        due("f is at n, g at m", x.node(0, 3) * 10 + x.node(1, 3), 11);
        due("g is at m", x.serves(0), 1);
        due("f is at n", x.serves(1), 0);
        due("both are GONE", x.tick(), 2);
    }

    static void tickServesByBusy() {
        term("a NODE at which UNITS are serves as many as its CURVE is more at one more than how long it is BUSY than at "
            + "that (in TICKS);");
        // 5 6 9 9 11 13 ..: what it is at 0 is not served
        DelayBounds x = Told.of("curve c is 5 6 9 9 again 1 adds 2 ; node n fifo serves c ; flow f sends c over n ; ");
        x.put(0, 9);
        int[] gone = {1, 3, 0, 2, 2, 1, 0};
        for (int i = 0; i < gone.length; i++) {
            due("TICK " + i, x.tick(), gone[i]);
        }
        x.put(0, 9);
        due("from the begin", x.tick(), 1);
        due("and on", x.tick(), 3);
        DelayBounds y = alone("fifo", "zero");
        y.put(0, 9);
        for (int i = 0; i < 60; i++) {
            due("none ever", y.tick(), 0);
        }
    }

    static void busyOneTickMore() {
        term("it is BUSY for one TICK more;");
        DelayBounds x = Told.of(LINES + "node n fifo serves zero ; node m fifo serves zero ; flow f sends one over n ; ");
        x.tick();
        due("not without UNITS", x.node(0, 4), 0);
        x.put(0, 1);
        due("not by PUT", x.node(0, 4), 0);
        for (int i = 1; i < 60; i++) {
            x.tick();
            due("behind TICK " + i, x.node(0, 4), i);
        }
        x.tick();
        due("not at time 60", x.node(0, 4), 59);
        due("another NODE", x.node(1, 4), 0);
        DelayBounds y = alone("fifo", "zero");
        y.put(0, 1);
        ticks(y, 60);
        due("for 60 at most", y.node(0, 4), 60);
    }

    static void busyFor0() {
        term("if none is left of them (of those that were there) it is BUSY for 0.");
        // n serves one only if it is BUSY for 0; what comes in the same TICK does not keep it BUSY
        DelayBounds x = Told.of(LINES.replace("wait is 0 0 1 again 2 adds 1", "begin is 0 1 again 1 adds 0")
            + "node m fifo serves one ; node n fifo serves begin ; flow f sends one over m n ; ");
        x.put(0, 3);
        due("one comes to n", x.tick(), 0);
        due("n is not BUSY", x.node(1, 4), 0);
        for (int i = 0; i < 3; i++) {
            due("m is BUSY for", x.node(0, 4), new int[] {1, 2, 0}[i]);
            due("one of n is GONE", x.tick(), 1);
            due("n is BUSY for 0", x.node(1, 4), 0);
        }
        x.put(0, 1);
        due("all of m are served at once", x.tick() + x.node(0, 4), 0);
        DelayBounds y = Told.of("curve begin is 0 1 again 1 adds 0 ; node n fifo serves begin ; flow f sends begin over n ; ");
        y.put(0, 2);
        due("one of two", y.tick(), 1);
        due("one is left: BUSY for 1", y.node(0, 4), 1);
        due("it is not served then", y.tick(), 0);
        due("BUSY for 2", y.node(0, 4), 2);
    }

    static void fifoTheFirst() {
        term("Which: at a fifo one those that came first;");
        DelayBounds x = three("fifo", "one");
        for (int flow : new int[] {2, 0, 1, 2}) {
            x.put(flow, 1);
        }
        dueOrder("as they came", x, 2, 0, 1, 2);
    }

    static void blindTheLast() {
        term("at a blind one those that came last;");
        DelayBounds x = three("blind", "one");
        for (int flow : new int[] {2, 0, 1, 2}) {
            x.put(flow, 1);
        }
        dueOrder("the last one first", x, 2, 1, 0, 2);
        DelayBounds y = three("blind", "one");
        y.put(0, 1);
        y.put(1, 1);
        y.tick();
        y.put(2, 1);
        dueOrder("one that came later goes ahead", y, 2, 0);
    }

    static void firstTheLeast() {
        term("at a first one those of the FLOW with the least number, of these those that came first;");
        DelayBounds x = three("first", "one");
        for (int flow : new int[] {2, 0, 1, 2, 0}) {
            x.put(flow, 1);
        }
        dueOrder("by numbers", x, 0, 0, 1, 2, 2);
        DelayBounds y = three("first", "one");
        y.put(1, 2);
        y.tick();
        y.put(0, 1);
        dueOrder("one that came later goes ahead", y, 0, 1);
    }

    static void fairByTurns() {
        term("at a fair one by turns one of each FLOW that has any (by numbers, from 0 on, again and again), of each those "
            + "that came first.");
        // each TICK begins with FLOW 0, one of three in a TICK: f g h, f g, g, h is left where it has none
        DelayBounds x = three("fair", "one");
        x.put(2, 1);
        x.put(1, 2);
        x.put(0, 2);
        dueOrder("one in each TICK: from 0 on each time", x, 0, 0, 1, 1, 2);
        int[][] left = {{1, 2, 1}, {1, 1, 1}, {1, 1, 0}, {0, 1, 0}, {0, 0, 0}};
        for (int many = 1; many <= 5; many++) {
            DelayBounds y = Told.of("curve c is 0 again 1 adds " + many + " ; node n fair serves c ; flow f sends c over n ; "
                + "flow g sends c over n ; flow h sends c over n ; ");
            y.put(2, 1);
            y.put(1, 2);
            y.put(0, 2);
            due("as many as it serves", y.tick(), many);
            for (int flow = 0; flow < 3; flow++) {
                due(many + " served, left of " + flow, y.flow(flow, 2), left[many - 1][flow]);
            }
        }
        DelayBounds z = three("fair", "three");
        z.put(1, 4);
        due("one FLOW alone has all turns", z.tick(), 3);
    }

    static void ofEachThoseThatCameFirst() {
        term("of each those that came first.");
        for (int kind = 0; kind < 4; kind++) {
            DelayBounds x = alone(KINDS[kind], "wait");
            x.put(0, 1);
            x.tick();
            x.put(0, 1);
            due(KINDS[kind] + ": one is GONE", x.tick(), 1);
            due(KINDS[kind] + ": when the other was BORN", x.oldest(0), kind == 0 ? 0 : 1);
            due(KINDS[kind] + ": LATE", x.latest(0), kind == 0 ? 1 : 2);
        }
    }

    static void theyComeByNodes() {
        term("By NODES, as they were served, they come to the next NODE of their way, behind all that are there,");
        // to c: h is there, then a's, then b's; a blind one serves, and sends on, the last one first
        DelayBounds x = Told.of(LINES + "node c fifo serves one ; node a blind serves two ; node b fifo serves one ; "
            + "flow f sends one over b c ; flow g sends one over a c ; flow h sends one over c ; flow k sends one over a c ; ");
        x.put(0, 1);
        x.put(1, 1);
        x.put(3, 1);
        x.put(2, 2);
        x.tick();
        dueOrder("at c", x, 2, 3, 1, 0);
        DelayBounds y = Told.of(LINES + "node c fifo serves one ; node a fair serves three ; flow g sends one over a c ; flow k sends one over a c ; ");
        y.put(1, 2);
        y.put(0, 1);
        y.tick();
        dueOrder("by turns", y, 0, 1, 1);
    }

    static void lateBy() {
        term("or are GONE: LATE by as much as time is then (one more) less when they were BORN.");
        DelayBounds x = alone("fifo", "one");
        x.put(0, 1);
        x.tick();
        due("by 1 at least", x.latest(0), 1);
        DelayBounds y = three("blind", "one");
        y.put(0, 1);
        for (int t = 0; t < 59; t++) {
            y.put(1, 1);
            y.tick();
        }
        due("g was served each time", y.latest(1), 1);
        due("the last TICK", y.tick(), 1);
        due("by 60 at most", y.latest(0), 60);
        DelayBounds z = Told.of(LINES + "node m fifo serves one ; node n fifo serves one ; flow f sends one over m n ; ");
        z.tick();
        z.put(0, 1);
        z.tick();
        due("not GONE at the first of two NODES", z.latest(0), NONE);
        z.tick();
        due("by 2 at two NODES", z.latest(0), 2);
    }

    static void itIsTheNextTime() {
        term("It is the next time.");
        DelayBounds x = new DelayBounds();
        for (int t = 0; t < 60; t++) {
            due("time", x.count(3), t);
            due("TICK of nothing", x.tick(), 0);
        }
        due("time", x.count(3), 60);
    }

    static void atTime60() {
        term("At time 60 neither PUT nor TICK can be.");
        DelayBounds x = Told.of(LINES + "node n fifo serves wait ; flow f sends one over n ; loses queue = 3 ; ");
        ticks(x, 59);
        due("PUT at 59", x.put(0, 4), 3);
        due("TICK at 59", x.tick(), 0);
        due("PUT at 60", x.put(0, 1), NONE);
        due("TICK at 60", x.tick(), NONE);
        due("TICK at 60 once more", x.tick(), NONE);
        int[] due = {60, 3, 0, 1};
        for (int what = 3; what < 7; what++) {
            due("count " + what + " stays", x.count(what), due[what - 3]);
        }
        due("BUSY stays", x.node(0, 4), 1);
        due("latest stays", x.latest(0), NONE);
        due("oldest stays", x.oldest(0), 59);
    }

    static void tickAnswers() {
        promise(30, "TICK: how many are GONE by it; NONE: it can't be.");
        DelayBounds x = alone("fifo", "two");
        due("none is there", x.tick(), 0);
        x.put(0, 3);
        due("two", x.tick(), 2);
        due("one, of two that it could serve", x.tick(), 1);
        due("none any more", x.tick(), 0);
        ticks(x, 55);
        due("the 60th", x.tick(), 0);
        due("a 61st", x.tick(), NONE);
    }

    // ---- JUDGED ----

    private static String ticksOf(int many) {
        return times("tick;", many);
    }

    static void judgedTheFirstThatCantBe() {
        term("JUDGED: the RUN from the begin: the first line (from 0) that can't be (those are left out);");
        DelayBounds x = alone("fifo", "zero");
        String nines = times("put f 9;", 4);
        Told.run(x, nines + "put f 5;put f 4;put f 1;");
        due("line 4", x.judged(0), 4);
        due("the others are PUT", x.judged(3), 40);
        Told.run(x, nines + "put f 4;" + ticksOf(34) + "put f 1;");
        due("line 39", x.judged(0), 39);
        Told.run(x, nines + "put f 4;" + ticksOf(35));
        due("none", x.judged(0), NONE);
        DelayBounds y = alone("fifo", "one");
        ticks(y, 60);
        Told.run(y, nines + "put f 4;tick;put f 1;put f 1;");
        due("from the begin, at time 60, too", y.judged(0), 7);
        due("one is GONE by it", y.judged(1), 1);
        due("40 are there by it", y.judged(3), 40);
        due("all is as ahead", y.count(3) + y.count(4) + y.count(5), 60);
    }

    static void judgedAtLast() {
        term("how many UNITS are GONE at last; how LATE the latest of these was; how many are there at last.");
        DelayBounds x = Told.of(LINES + "node n blind serves one ; flow f sends one over n ; flow g sends one over n ; ");
        x.put(0, 9);
        Told.run(x, "put f 1;put g 1;tick;put g 1;tick;tick;put g 1;tick;put f 2;");
        due("GONE: g g f g", x.judged(1), 4);
        due("the latest: f by 3", x.judged(2), 3);
        due("there", x.judged(3), 2);
        due("what is now does not matter", x.count(4), 9);
        due("asked again", x.judged(1), 4);
        Told.run(x, ticksOf(40));
        due("40 TICKS", x.judged(0), NONE);
        due("none is GONE", x.judged(1), 0);
    }

    static void judgedAnswers() {
        promise(31, "JUDGED, what 0: a line (NONE: none), 1, 2, 3: how many, how LATE (NONE: none is GONE), how many; "
            + "-2: others.");
        DelayBounds x = alone("fifo", "one");
        due("no RUN, a line", x.judged(0), NONE);
        due("no RUN, GONE", x.judged(1), 0);
        due("no RUN, LATE", x.judged(2), NONE);
        due("no RUN, there", x.judged(3), 0);
        Told.run(x, "put f 2;");
        due("none is GONE", x.judged(2), NONE);
        due("two are there", x.judged(3), 2);
        Told.run(x, "put f 2;tick;");
        due("LATE by 1", x.judged(2), 1);
        for (int what : new int[] {-1, 4, -2, LEAST, MOST}) {
            due("what " + what, x.judged(what), -2);
        }
        due("of nothing", new DelayBounds().judged(4), -2);
    }

    // ---- FITS, HOLDS, SERVES, LATEST, OLDEST ----

    static void fitsWithLostOnes() {
        term("FITS of a FLOW: whether what was PUT of it (LOST ones, too) keeps to its CURVE:");
        DelayBounds x = Told.of(LINES + "node n fifo serves one ; flow f sends slow over n ; flow g sends slow over n ; loses which = 0 ; ");
        x.put(0, 2);
        due("2 LOST", x.fits(0), true);
        x.put(0, 1);
        due("3 LOST", x.fits(0), false);
        due("another FLOW", x.fits(1), true);
        x.put(1, 9);
        due("another FLOW", x.fits(1), false);
        DelayBounds y = alone("fifo", "zero");
        y.put(0, 2);
        y.put(0, 10);
        y.put(0, 0);
        due("what can't be is not PUT", y.fits(0), true);
        due("nothing was PUT", alone("fifo", "zero").fits(0), true);
        DelayBounds z = Told.of(LINES + "node n fifo serves one ; flow f sends zero over n ; ");
        due("nothing was PUT, by 0", z.fits(0), true);
        z.put(0, 1);
        due("1 by 0", z.fits(0), false);
    }

    static void fitsFromAnyTimeToAnyLater() {
        term("from any time on, to any later one (time and 1 more at the latest), that one not included,");
        // slow is 2 at 1, 3 at 2, 4 at 3
        DelayBounds x = alone("fifo", "three");
        x.put(0, 3);
        due("3 at once, ahead of the TICK", x.fits(0), false);
        ticks(x, 60);
        due("3 at once, from 0 to 1, at 60", x.fits(0), false);
        DelayBounds y = alone("fifo", "three");
        ticks(y, 57);
        y.put(0, 3);
        due("3 at 57, though 59 could have been", y.fits(0), false);
        DelayBounds z = alone("fifo", "three");
        ticks(z, 5);
        z.put(0, 2);
        z.tick();
        due("the later one is not included", z.fits(0), true);
        z.put(0, 1);
        due("3 in two", z.fits(0), true);
        z.mark(0, false);
        z.put(0, 1);
        due("4 in two", z.fits(0), false);
        z.mark(0, true);
        z.tick();
        z.put(0, 1);
        due("4 in three", z.fits(0), true);
        z.put(0, 1);
        due("5 in three", z.fits(0), false);
        DelayBounds w = alone("fifo", "three");
        ticks(w, 59);
        w.put(0, 2);
        w.tick();
        due("2 at 59, at 60", w.fits(0), true);
    }

    static void fitsNoMore() {
        term("no more was PUT than its CURVE is at the later one less the earlier one.");
        // 9 at 1 and ever after; 5 at 0 and 4, or 5, at 59
        for (int many = 4; many <= 5; many++) {
            DelayBounds x = Told.of("curve nine is 0 9 again 1 adds 0 ; node n fifo serves nine ; flow f sends nine over n ; ");
            x.put(0, 5);
            ticks(x, 59);
            x.put(0, many);
            due("9 or 10 in 60", x.fits(0), many == 4);
        }
        DelayBounds y = Told.of(LINES + "node n fifo serves one ; flow f sends one over n ; ");
        for (int t = 0; t < 60; t++) {
            y.put(0, 1);
            due("one each time, at " + t, y.fits(0), true);
            y.tick();
        }
        due("60 in 60", y.fits(0), true);
        // what it is at 0 is for no time at all
        DelayBounds z = Told.of("curve high is 9 9 again 1 adds 0 ; node n fifo serves high ; flow f sends high over n ; ");
        z.put(0, 9);
        due("9", z.fits(0), true);
        z.put(0, 1);
        due("10", z.fits(0), false);
    }

    static void fitsAnswers() {
        promise(32, "FITS; false: others.");
        DelayBounds x = alone("fifo", "one");
        due("the last FLOW", x.fits(0), true);
        due("behind it", x.fits(1), false);
        due("-1", x.fits(-1), false);
        due("of nothing", new DelayBounds().fits(0), false);
    }

    static void holdsByTotal() {
        term("HOLDS of a FLOW: whether none of it was LATE by more than TOTAL (if it DIVERGES: true).");
        DelayBounds x = alone("fifo", "one");
        due("TOTAL", x.total(0), 1);
        due("none is GONE", x.holds(0), true);
        x.put(0, 2);
        x.tick();
        due("LATE by 1", x.holds(0), true);
        x.tick();
        due("LATE by 2", x.holds(0), false);
        x.put(0, 1);
        x.tick();
        due("once is enough", x.holds(0), false);
        DelayBounds y = alone("fifo", "zero");
        y.put(0, 1);
        ticks(y, 60);
        due("they DIVERGE", y.rounds(), NONE);
        due("they DIVERGE: true", y.holds(0), true);
        DelayBounds z = Told.of(LINES + "node n fifo serves three ; node m fifo serves zero ; flow f sends one over n ; flow g sends one over m ; ");
        z.put(0, 1);
        z.tick();
        due("LATE, and they DIVERGE by another FLOW: true", z.holds(0), true);
        DelayBounds w = Told.of(LINES + "node n first serves three ; flow f sends one over n ; flow g sends one over n ; ");
        w.put(0, 1);
        w.tick();
        due("LATE by 1 is more than 0", w.holds(0), false);
        due("another FLOW", w.holds(1), true);
        // TOTAL 60, and there for 60: one that is not GONE is not LATE
        DelayBounds v = Told.of(LINES + "node n blind serves one ; flow f sends two over n ; ");
        due("TOTAL 60", v.total(0), 60);
        v.put(0, 1);
        for (int t = 0; t < 59; t++) {
            v.put(0, 1);
            v.tick();
        }
        v.tick();
        due("LATE by 60", v.latest(0), 60);
        due("holds", v.holds(0), true);
    }

    static void holdsAnswers() {
        promise(33, "HOLDS; false: others.");
        DelayBounds x = alone("fifo", "one");
        due("the last FLOW", x.holds(0), true);
        due("behind it", x.holds(1), false);
        due("-1", x.holds(-1), false);
        due("behind it, if they DIVERGE", alone("fifo", "zero").holds(1), false);
        due("of nothing", new DelayBounds().holds(0), false);
    }

    static void servesInTheNextTick() {
        term("SERVES of a NODE: the FLOW of which it serves a UNIT first in the next TICK (at time 60, too, as if there "
            + "were one).");
        // two are served at 59: f and g, f and f, h and g, f and g
        int[] at59 = {0, 0, 2, 0};
        int[] at60 = {2, 1, 0, 0};
        for (int kind = 0; kind < 4; kind++) {
            DelayBounds x = three(KINDS[kind], "two");
            ticks(x, 59);
            for (int flow : new int[] {2, 1, 0, 2, 1, 0}) {
                x.put(flow, 1);
            }
            due(KINDS[kind] + " at 59", x.serves(0), at59[kind]);
            due(KINDS[kind] + " has served none by that", x.count(4), 6);
            x.tick();
            due(KINDS[kind] + " at 60", x.serves(0), at60[kind]);
        }
    }

    static void servesAnswers() {
        promise(34, "SERVES; NONE: others, no UNITS there, it serves none.");
        DelayBounds x = alone("fifo", "wait");
        due("no UNITS there", x.serves(0), NONE);
        x.put(0, 1);
        due("it serves none", x.serves(0), NONE);
        x.tick();
        due("it serves one", x.serves(0), 0);
        x.tick();
        due("no UNITS there any more", x.serves(0), NONE);
        due("behind the last NODE", x.serves(1), NONE);
        due("-1", x.serves(-1), NONE);
        due("of nothing", new DelayBounds().serves(0), NONE);
    }

    static void latestTheMost() {
        term("LATEST of a FLOW: the most by which one that is GONE was LATE.");
        DelayBounds x = alone("fifo", "one");
        x.put(0, 3);
        due("none is GONE", x.latest(0), NONE);
        for (int i = 1; i <= 3; i++) {
            x.tick();
            due("by " + i, x.latest(0), i);
        }
        x.put(0, 1);
        x.tick();
        due("a later one by 1", x.latest(0), 3);
    }

    static void latestAnswers() {
        promise(35, "LATEST; NONE: others, none is GONE.");
        DelayBounds x = three("fifo", "one");
        x.put(0, 2);
        due("none is GONE", x.latest(0), NONE);
        x.tick();
        due("one is", x.latest(0), 1);
        due("of another FLOW none is", x.latest(2), NONE);
        due("behind the last FLOW", x.latest(3), NONE);
        due("-1", x.latest(-1), NONE);
        due("of nothing", new DelayBounds().latest(0), NONE);
    }

    static void oldestThatIsThere() {
        term("OLDEST of a FLOW: when the first BORN of it that is there was.");
        DelayBounds x = Told.of(LINES + "node m fifo serves zero ; node n blind serves one ; flow f sends one over n m ; flow g sends one over n ; ");
        x.put(0, 1);
        due("BORN at 0", x.oldest(0), 0);
        x.tick();
        x.put(0, 1);
        due("the first is at the next NODE", x.oldest(0), 0);
        DelayBounds y = three("fifo", "one");
        y.put(0, 1);
        y.tick();
        y.put(0, 1);
        due("the first is GONE", y.oldest(0), 1);
        DelayBounds z = three("blind", "one");
        ticks(z, 58);
        z.put(0, 1);
        z.tick();
        z.put(0, 1);
        due("BORN at 59", z.oldest(0), 59);
        z.put(1, 1);
        z.tick();
        due("there at time 60", z.oldest(0), 59);
    }

    static void oldestAnswers() {
        promise(36, "OLDEST; NONE: others, none is there.");
        DelayBounds x = Told.of(LINES + "node n fifo serves one ; flow f sends one over n ; flow g sends one over n ; loses which ; ");
        due("none is there", x.oldest(0), NONE);
        x.put(1, 1);
        due("a LOST one is not there", x.oldest(1), NONE);
        x.put(0, 1);
        due("one is", x.oldest(0), 0);
        x.tick();
        due("it is GONE", x.oldest(0), NONE);
        due("behind the last FLOW", x.oldest(2), NONE);
        due("-1", x.oldest(-1), NONE);
        due("of nothing", new DelayBounds().oldest(0), NONE);
    }

    // ---- what is SEEN ----

    static void seenSoMuch() {
        term("SEEN: that an unknown one of the CURVES is so much (0 to 999) or more at t (0 to 60), or less; 8 at most.");
        // 5, 999 at 60 (9 + 60 * 16.5), 10 t
        String net = "curve a is 5 again 1 adds 0 ; curve b is 9 9 again 2 adds 33 ; curve c is 0 again 1 adds 10 ; ";
        int[][] asked = {{0, 5, 1}, {0, 6, 1}, {0, 5, 0}, {0, 6, 0}, {0, 0, 1}, {0, 0, 0}, {60, 999, 1}, {60, 999, 0},
            {60, 600, 1}, {60, 600, 0}, {60, 601, 1}, {1, 10, 1}, {1, 10, 0}};
        int[] due = {3, 2, 4, 5, 7, 0, 2, 5, 6, 1, 2, 4, 3};
        for (int i = 0; i < asked.length; i++) {
            DelayBounds x = Told.of(net);
            due("see", x.see(asked[i][0], asked[i][1], asked[i][2] == 1), true);
            due(asked[i][1] + (asked[i][2] == 1 ? " or more" : " or less") + " at " + asked[i][0], x.who(), due[i]);
        }
        DelayBounds y = Told.of(net);
        for (int i = 0; i < 8; i++) {
            due("the first eight", y.see(60, 0, true), true);
        }
        due("a ninth", y.see(60, 0, false), false);
        due("8 are SEEN", y.count(8), 8);
        due("the ninth is not", y.who(), 7);
    }

    static void seeAnswers() {
        promise(37, "SEEN: true; false: others, 8 there are.");
        DelayBounds x = new DelayBounds();
        due("t -1", x.see(-1, 0, true), false);
        due("t 61", x.see(61, 0, true), false);
        due("-1", x.see(0, -1, true), false);
        due("1000", x.see(0, 1000, false), false);
        due("the least", x.see(LEAST, LEAST, false), false);
        due("the most", x.see(MOST, MOST, false), false);
        due("none is SEEN by these", x.count(8), 0);
        due("0 at 0", x.see(0, 0, false), true);
        due("999 at 60", x.see(60, 999, true), true);
        for (int i = 2; i < 8; i++) {
            due("see", x.see(i, i, true), true);
        }
        due("8 there are", x.see(0, 0, true), false);
        due("8 stay", x.count(8), 8);
    }

    static void whoByAllSeen() {
        term("WHO: CURVES by which all SEEN is so (bits).");
        DelayBounds x = Told.of("curve a is 0 again 1 adds 0 ; curve b is 1 again 1 adds 0 ; curve c is 2 again 1 adds 0 ; "
            + "curve d is 3 again 1 adds 0 ; curve e is 4 again 1 adds 0 ; curve f is 5 again 1 adds 0 ; ");
        due("nothing is SEEN: all six", x.who(), 63);
        int[] due = {62, 60, 56, 48, 32, 0};
        for (int i = 1; i <= 6; i++) {
            x.see(i * 10, i, true);
            due(i + " or more", x.who(), due[i - 1]);
        }
        DelayBounds y = Told.of("curve a is 0 again 1 adds 0 ; curve b is 1 again 1 adds 0 ; curve c is 2 again 1 adds 0 ; ");
        y.see(0, 1, true);
        y.see(0, 2, false);
        due("1 or more, less than 2", y.who(), 2);
        y.see(0, 1, false);
        due("none", y.who(), 0);
    }

    static void whoAnswers() {
        promise(38, "WHO, as bits.");
        due("of nothing", new DelayBounds().who(), 0);
        due("of one", Told.of("curve a is 0 again 1 adds 0 ; ").who(), 1);
        due("of six", Told.of(LINES).who(), 63);
    }

    /** Three pairs that are alike but at each 4th, 3rd, 5th t from there on: none are alike at 60 first, or at 61. */
    private static final String AT_60 = "curve a is 0 again 1 adds 1 ; curve b is 0 1 2 3 5 again 4 adds 4 ; "
        + "curve c is 20 again 1 adds 1 ; curve d is 20 21 22 24 again 3 adds 3 ; "
        + "curve e is 50 again 1 adds 1 ; curve f is 50 51 52 53 54 56 again 5 adds 5 ; ";
    private static final String AT_61 = "curve a is 0 again 1 adds 1 ; curve b is 0 1 2 3 4 6 again 4 adds 4 ; "
        + "curve c is 20 again 1 adds 1 ; curve d is 20 21 22 23 25 again 3 adds 3 ; "
        + "curve e is 50 again 1 adds 1 ; curve f is 50 51 52 53 54 55 57 again 5 adds 5 ; ";

    static void lookFrom0To60() {
        term("LOOK: t (0 to 60) at which the greatest number of these that are alike there is the least,");
        due("at 60", Told.of(AT_60).look(), 60);
        due("not at 61: two are the least, at 0 first", Told.of(AT_61).look(), 0);
        due("at 0", Told.of("curve a is 0 again 1 adds 0 ; curve b is 1 again 1 adds 0 ; ").look(), 0);
        // three alike at 1, two and two at 2
        due("the least of the greatest", Told.of("curve a is 0 again 1 adds 0 ; curve b is 0 0 0 0 again 1 adds 1 ; "
            + "curve c is 0 0 1 again 1 adds 0 ; curve d is 0 1 1 again 1 adds 0 ; ").look(), 2);
    }

    static void lookOfEqualOnes() {
        term("if that is less than all; of equal ones the first.");
        due("none is less than all", Told.of("curve a is 0 again 1 adds 1 ; curve b is 0 1 again 1 adds 1 ; ").look(), NONE);
        due("the first of 2, 3, 4 ..", Told.of("curve a is 0 0 again 1 adds 1 ; curve b is 0 0 2 again 1 adds 1 ; ").look(), 2);
        // 0 1 2 by 0 1 1 1: two of three at 2, then all are other ones
        // c is 2 at 2, as a is, but it is not one of these
        DelayBounds x = Told.of("curve a is 0 again 1 adds 1 ; curve b is 0 1 1 again 1 adds 0 ; curve c is 2 again 1 adds 0 ; ");
        x.see(0, 1, false);
        due("others do not count", x.look(), 2);
        due("less is better than first", Told.of("curve a is 0 again 1 adds 1 ; curve b is 0 1 1 again 1 adds 0 ; "
            + "curve c is 0 1 1 2 again 1 adds 0 ; ").look(), 3);
    }

    static void lookAnswers() {
        promise(39, "LOOK; NONE: none parts them.");
        due("of nothing", new DelayBounds().look(), NONE);
        due("of one", Told.of("curve a is 0 again 1 adds 0 ; ").look(), NONE);
        DelayBounds x = Told.of(AT_60);
        x.see(0, 50, true);
        due("of two, at 5", x.look(), 5);
        x.see(5, 56, true);
        due("of one that is left", x.look(), NONE);
        x.see(5, 56, false);
        due("of none that is left", x.look(), NONE);
    }

    // ---- LOADS ----

    static void draws() {
        term("A DRAW below m: g becomes (g * 1103515245 + 12345) modulo 2147483648 (g is the SEED at first); it is "
            + "g / 65536, cut, modulo m.");
        // 0: 0 21468; 1: 16838 5758; 3: 17747 7107; 9999: 4241 233. Of four FLOWS: 0 of 0, 2 of 2, 3 of 3, 1 of 1
        int[] seeds = {0, 1, 3, 9999};
        int[] flows = {0, 2, 3, 1};
        int[] many = {0, 2, 3, 1};
        for (int serving = 0; serving < 4; serving++) {
            StringBuilder net = new StringBuilder(LINES);
            for (int i = 0; i < 4; i++) {
                net.append("node ").append((char) ('a' + i)).append(" fifo serves ").append(i == serving ? "three" : "zero")
                    .append(" ; flow ").append((char) ('p' + i)).append(" sends one over ").append((char) ('a' + i)).append(" ; ");
            }
            DelayBounds x = Told.of(net.toString());
            for (int i = 0; i < seeds.length; i++) {
                boolean isServed = flows[i] == serving;
                due("SEED " + seeds[i] + ", GONE of " + serving, x.loads(seeds[i], 1, 0), isServed ? many[i] : 0);
                due("SEED " + seeds[i] + ", there", x.loads(seeds[i], 1, 1), isServed ? 0 : many[i]);
            }
        }
        // 9999: below 4 there come 1 2 3 3 2 0 2
        int[] there = {1, 3, 6, 9, 11, 11, 13};
        for (int i = 0; i < there.length; i++) {
            due("SEED 9999 of " + (i + 1), alone("fifo", "zero").loads(9999, i + 1, 1), there[i]);
        }
    }

    static void loadsOf1To60() {
        term("LOADS by a SEED of so many (1 to 60) TICKS, from now on (all is as ahead then), as far as these can be:");
        DelayBounds x = alone("fifo", "one");
        due("0 TICKS", x.loads(1, 0, 0), -2);
        due("1", x.loads(1, 1, 0), 1);
        due("60", x.loads(1, 60, 0), 60);
        due("61", x.loads(1, 61, 0), -2);
        x.put(0, 9);
        x.tick();
        String before = all(x);
        due("from now on: 8 and 2 less 1", x.loads(1, 1, 1), 9);
        due("all is as ahead", all(x).equals(before), true);
        ticks(x, 57);
        due("two can be, at 58", x.loads(1, 60, 1), 2 + 3 - 2);
        x.tick();
        due("one can be, at 59", x.loads(1, 60, 1), 1);
        x.tick();
        due("none can be, at 60", x.loads(1, 60, 1), 0);
        due("none is GONE at 60", x.loads(1, 60, 0), 0);
        due("LATE ahead, at 60", x.loads(1, 60, 2), 9);
    }

    private static String all(DelayBounds x) {
        StringBuilder s = new StringBuilder();
        for (int what = 0; what < 10; what++) {
            s.append(x.count(what)).append(' ');
        }
        for (int what = 0; what < 5; what++) {
            s.append(x.node(0, what)).append(' ').append(x.flow(0, what)).append(' ');
        }
        return s.append(x.latest(0)).append(' ').append(x.oldest(0)).append(x.fits(0)).append(x.holds(0)).toString();
    }

    static void loadsPutsWhatCanBe() {
        term("each, if there are FLOWS: a DRAW below FLOWS, one below 4: so many of that one are PUT (if it is not 0, and "
            + "can be);");
        // SEED 1 of one FLOW: 2 3 3 3 2 3 0 3 ..; 39 are there behind 19, then come 0, 0 and 3, that can't be
        DelayBounds x = alone("fifo", "zero");
        int[] ticks = {1, 2, 6, 7, 8, 18, 19, 20, 21, 22, 60};
        int[] there = {2, 5, 16, 16, 19, 38, 39, 39, 39, 39, 40};
        for (int i = 0; i < ticks.length; i++) {
            due("there behind " + ticks[i], x.loads(1, ticks[i], 1), there[i]);
        }
        // two FLOWS: 2 of the first one, 3 and 3 of the second one, 3 of the first one
        DelayBounds y = Told.of(LINES + "node m fifo serves three ; node n fifo serves zero ; flow f sends one over m ; flow g sends one over n ; ");
        int[] gone = {2, 2, 2, 5};
        int[] left = {0, 3, 6, 6};
        for (int i = 0; i < 4; i++) {
            due("GONE of two FLOWS", y.loads(1, i + 1, 0), gone[i]);
            due("there of two FLOWS", y.loads(1, i + 1, 1), left[i]);
        }
        // three FLOWS: 2 of the third one, 3 of the first one, 3 of the second one
        DelayBounds z = Told.of(LINES + "node m fifo serves three ; node n fifo serves zero ; flow f sends one over n ; flow g sends one over m ; flow h sends one over n ; ");
        due("GONE of three FLOWS", z.loads(1, 3, 0), 3);
        due("there of three FLOWS", z.loads(1, 3, 1), 5);
        // LOST ones are not there
        DelayBounds w = Told.of(LINES + "node m fifo serves zero ; flow f sends one over m ; loses here = 4 ; ");
        due("LOST", w.loads(1, 60, 1), 4);
    }

    static void loadsTicksAnyway() {
        term("then, also without these, the TICK:");
        DelayBounds x = new DelayBounds();
        due("no FLOWS", x.loads(1, 60, 0), 0);
        due("no FLOWS, there", x.loads(1, 60, 1), 0);
        DelayBounds y = alone("fifo", "one");
        y.put(0, 3);
        // SEED 0 begins with none PUT
        due("none is PUT, one is GONE", y.loads(0, 1, 0), 1);
        due("two are there", y.loads(0, 1, 1), 2);
        DelayBounds z = alone("fifo", "one");
        for (int i = 0; i < 4; i++) {
            z.put(0, 9);
        }
        z.put(0, 4);
        due("none can be PUT, one is GONE", z.loads(1, 1, 0), 1);
        due("39 are there", z.loads(1, 1, 1), 39);
    }

    static void loadsTells() {
        term("how many are GONE in these; how many are there at last; the most by which one that is GONE (ahead, too) "
            + "was LATE.");
        DelayBounds x = alone("fifo", "one");
        x.put(0, 5);
        ticks(x, 5);
        due("GONE in these, not ahead", x.loads(1, 3, 0), 3);
        due("there at last: 2 and 3 and 3 less 3", x.loads(1, 3, 1), 5);
        due("LATE ahead, too", x.loads(1, 3, 2), 5);
        due("LATE in these", alone("fifo", "one").loads(1, 3, 2), 2);
        due("LATE in these by more than ahead", x.loads(1, 20, 2) > 5, true);
    }

    static void loadsAnswers() {
        promise(40, "LOADS by a SEED (0 to 9999), what 0, 1, 2: how many, how many, how LATE (NONE: none is GONE); "
            + "-2: others.");
        DelayBounds x = alone("fifo", "one");
        due("SEED -1", x.loads(-1, 1, 0), -2);
        due("SEED 0", x.loads(0, 1, 0), 0);
        due("SEED 9999", x.loads(9999, 1, 0), 1);
        due("SEED 10000", x.loads(10000, 1, 0), -2);
        due("-1 TICKS", x.loads(1, -1, 0), -2);
        due("what -1", x.loads(1, 1, -1), -2);
        due("what 2", x.loads(1, 1, 2), 1);
        due("what 3", x.loads(1, 1, 3), -2);
        due("none is GONE", x.loads(0, 1, 2), NONE);
        due("none is GONE of nothing", new DelayBounds().loads(1, 60, 2), NONE);
        due("others of nothing", new DelayBounds().loads(1, 61, 3), -2);
        for (int wild : new int[] {LEAST, MOST}) {
            due("SEED " + wild, x.loads(wild, 1, 0), -2);
            due("TICKS " + wild, x.loads(1, wild, 0), -2);
            due("what " + wild, x.loads(1, 1, wild), -2);
        }
    }

    // ---- MARKS ----

    static void marksHoldAllButTexts() {
        term("MARKS 0 and 1 hold all but the texts (the NET, the TAPE, the RUN).");
        DelayBounds x = Told.of(LINES + "node n fifo serves wait ; flow f sends slow over n ; loses queue = 3 ; ");
        x.put(0, 5);
        ticks(x, 2);
        x.see(1, 1, true);
        x.mark(0, false);
        String marked = all(x);
        int who = x.who();
        ticks(x, 5);
        due("3 more are LOST", x.put(0, 6), 3);
        x.see(2, 2, false);
        x.mark(1, false);
        String other = all(x);
        Told.feed(x, "tick");
        due("back to 0", x.mark(0, true), true);
        due("the TAPE stays", x.count(9), 4);
        x.run();
        due("all is as on MARK 0", all(x).equals(marked), true);
        due("who is", x.who(), who);
        due("back to 1", x.mark(1, true), true);
        due("all is as on MARK 1", all(x).equals(other), true);
        due("back to 0 once more", x.mark(0, true), true);
        due("all is as on MARK 0", all(x).equals(marked), true);
        due("and it goes on from there", x.tick() * 10 + x.tick(), 1);
        Told.run(x, "put f 1;put f 1;");
        x.mark(0, true);
        due("the RUN stays", x.count(7), 2);
        due("it is judged from the begin", x.judged(3), 2);
        x.mark(1, true);
        x.mark(0, false);
        due("a MARK is laid anew", x.mark(0, true), true);
        due("it holds what is laid last", x.count(3), 7);
    }

    static void marksHoldWhatIsSeen() {
        term("MARKS 0 and 1 hold all");
        DelayBounds x = Told.of("curve a is 0 again 1 adds 1 ; curve b is 0 again 1 adds 2 ; curve c is 5 again 1 adds 0 ; ");
        x.mark(0, false);
        x.see(1, 2, true);
        x.see(0, 1, false);
        x.mark(1, false);
        due("b alone", x.who(), 2);
        x.mark(0, true);
        due("nothing is SEEN", x.who(), 7);
        for (int i = 0; i < 8; i++) {
            x.see(60, 60, false);
        }
        due("c alone", x.who(), 4);
        x.mark(1, true);
        due("b alone again", x.who(), 2);
        due("two are SEEN", x.count(8), 2);
        due("a third one", x.see(60, 121, true), true);
        due("by all three", x.who(), 0);
    }

    static void marksAtTime60() {
        promise(41, "A MARK is laid (back: gone back to): true;");
        DelayBounds x = alone("fifo", "one");
        due("laid on 0", x.mark(0, false), true);
        ticks(x, 59);
        x.put(0, 9);
        x.tick();
        due("laid on 1 at 60", x.mark(1, false), true);
        due("TICK can't be", x.tick(), NONE);
        due("back to 0", x.mark(0, true), true);
        due("time 0", x.count(3), 0);
        due("PUT can be", x.put(0, 1), 1);
        due("back to 1", x.mark(1, true), true);
        due("time 60", x.count(3), 60);
        due("PUT can't be", x.put(0, 1), NONE);
        due("9 were PUT at 59", x.fits(0), false);
    }

    static void markAnswers() {
        promise(41, "false: none such, nothing is on it (back).");
        DelayBounds x = new DelayBounds();
        due("nothing is on 0", x.mark(0, true), false);
        due("nothing is on 1", x.mark(1, true), false);
        x.tick();
        due("1 is laid", x.mark(1, false), true);
        due("nothing is on 0 still", x.mark(0, true), false);
        x.tick();
        for (int mark : new int[] {-1, 2, LEAST, MOST}) {
            due("lay " + mark, x.mark(mark, false), false);
            due("back to " + mark, x.mark(mark, true), false);
        }
        due("time is as ahead", x.count(3), 2);
        due("back to 1", x.mark(1, true), true);
        due("time of MARK 1", x.count(3), 1);
    }
}
