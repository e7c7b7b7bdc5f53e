/** Boundary cases of what ARRIVES, what is LEFT, of DELAYS and of all that is told by them. */
final class EdgesOfDelays extends Edges {
    /** one: t, two: 2 t, nine: 9 t, slow: 0 2 3 4 .. (t + 1), idle: 0 0 0 2 4 .. (2 t - 4), zero: 0. */
    private static final String LINES = "curve one is 0 again 1 adds 1 ; curve two is 0 again 1 adds 2 ; "
        + "curve nine is 0 again 1 adds 9 ; curve slow is 0 2 again 1 adds 1 ; curve idle is 0 0 0 again 1 adds 2 ; "
        + "curve zero is 0 again 1 adds 0 ; ";
    private static final int ONE = 0;
    private static final int TWO = 1;
    private static final int NINE = 2;
    private static final int IDLE = 4;
    private static final int ZERO = 5;

    /** f is LATE by 2 at m, then by 4 at n, by 6 at o; its way is not by the numbers of the NODES. */
    private static final String THREE_HOPS = LINES + "node o fifo serves idle ; node m fifo serves idle ; "
        + "node n fifo serves idle ; flow f sends slow over m n o ; ";
    /** f is LATE by 2 at m and goes on to n, where g is, too. */
    private static final String TANDEM = LINES + "node m fifo serves idle ; node n blind serves nine ; "
        + "flow f sends slow over m n ; flow g sends slow over n ; ";
    /** f is not by 60, g would be by 0, k is where no FLOW goes. */
    private static final String DIVERGING = "curve one is 0 again 1 adds 1 ; curve more is 1 again 1 adds 2 ; "
        + "node m fifo serves one ; node n blind serves more ; node k fair serves one ; "
        + "flow f sends more over m ; flow g sends one over n ; ";

    private static DelayBounds threeOver(String kind, String serves, String sends) {
        return Told.of(LINES + "node e fifo serves nine ; node n " + kind + " serves " + serves + " ; flow f sends " + sends
            + " over n ; flow g sends " + sends + " over n ; flow h sends " + sends + " over n ; flow k sends one over e ; ");
    }

    private static void dueLeft(DelayBounds x, int flow, int hop, int... due) {
        for (int t = 0; t < due.length; t++) {
            due("left of " + flow + " at hop " + hop + " at " + t, x.left(flow, hop, t), due[t]);
        }
    }

    // ---- what ARRIVES, what is LEFT ----

    static void arrivesWithDelaysAhead() {
        term("What ARRIVES of a FLOW at a NODE of its way at t: its CURVE at t and all its DELAYS at the NODES ahead on "
            + "its way, together.");
        DelayBounds x = Told.of(THREE_HOPS);
        due("none is ahead, at 0", x.arrives(0, 0, 0), 0);
        due("none is ahead, at 60", x.arrives(0, 0, 60), 61);
        due("2 ahead, at 0", x.arrives(0, 1, 0), 3);
        due("2 and 4 ahead, at 0", x.arrives(0, 2, 0), 7);
        due("2 and 4 ahead, at 60", x.arrives(0, 2, 60), 67);
        due("of another FLOW at 1", Told.of(TANDEM).arrives(1, 0, 1), 2);
        due("of another FLOW at 60", Told.of(TANDEM).arrives(1, 0, 60), 61);
    }

    static void arrivesAtT() {
        promise(19, "What ARRIVES at a hop at t (0 to 60);");
        DelayBounds x = Told.of(THREE_HOPS);
        due("at 60", x.arrives(0, 1, 60), 63);
        due("at 61", x.arrives(0, 1, 61), NONE);
        due("at -1", x.arrives(0, 1, -1), NONE);
        due("the last hop", x.arrives(0, 2, 1), 8);
        due("behind it", x.arrives(0, 3, 1), NONE);
    }

    static void leftIs0AtLeast() {
        term("What is LEFT of a NODE for a FLOW at t: the most of 0 and,");
        // t less 2 t
        DelayBounds x = Told.of(LINES + "node n blind serves one ; flow f sends zero over n ; flow g sends two over n ; ");
        due("at 0", x.left(0, 0, 0), 0);
        due("at 1", x.left(0, 0, 1), 0);
        due("at 60", x.left(0, 0, 60), 0);
        due("for the other", x.left(1, 0, 60), 60);
    }

    static void leftFromSOf0ToT() {
        term("at s from 0 to t, of what it serves at s less what ARRIVES there of others at s:");
        // 8 8 8 9 less 0 0 9 9: 8 by s 0; 5 7 9 9 less 0 1 9 9: 5 6 6 6 by s 1; 9 t less t: by s t
        String net = "curve nil is 0 again 1 adds 0 ; curve jump is 0 0 9 again 1 adds 0 ; curve rise is 0 1 9 again 1 adds 0 ; "
            + "curve flat is 8 8 8 9 again 1 adds 0 ; curve up is 5 7 9 again 1 adds 0 ; ";
        dueLeft(Told.of(net + "node n blind serves flat ; flow f sends nil over n ; flow g sends jump over n ; "), 0, 0,
            8, 8, 8, 8, 8);
        dueLeft(Told.of(net + "node n blind serves up ; flow f sends nil over n ; flow g sends rise over n ; "), 0, 0,
            5, 6, 6, 6, 6);
        dueLeft(threeOver("blind", "nine", "one"), 0, 0, 0, 7, 14, 21);
    }

    static void leftAtABlindOne() {
        term("at a blind one of all others,");
        DelayBounds x = threeOver("blind", "nine", "one");
        for (int flow = 0; flow < 3; flow++) {
            dueLeft(x, flow, 0, 0, 7, 14, 21);
        }
        dueLeft(Told.of(LINES + "node n blind serves nine ; flow f sends one over n ; "), 0, 0, 0, 9, 18);
    }

    static void leftAtAFirstOne() {
        term("at a first one of those with a lesser number;");
        DelayBounds x = threeOver("first", "nine", "one");
        dueLeft(x, 0, 0, 0, 9, 18, 27);
        dueLeft(x, 1, 0, 0, 8, 16, 24);
        dueLeft(x, 2, 0, 0, 7, 14, 21);
    }

    static void leftAtAFairOne() {
        term("at a fair one what it serves at t, divided by how many FLOWS go over it, cut;");
        DelayBounds x = threeOver("fair", "nine", "one");
        for (int flow = 0; flow < 3; flow++) {
            dueLeft(x, flow, 0, 0, 3, 6, 9);
        }
        // 2 t in 3; all of it for one alone; 9 t in 4
        dueLeft(threeOver("fair", "two", "zero"), 0, 0, 0, 0, 1, 2, 2, 3, 4);
        dueLeft(Told.of(LINES + "node n fair serves nine ; flow f sends one over n ; "), 0, 0, 0, 9, 18);
        dueLeft(Told.of(LINES + "node n fair serves nine ; flow f sends one over n ; flow g sends one over n ; "
            + "flow h sends one over n ; flow k sends one over n ; "), 3, 0, 0, 2, 4, 6, 9);
    }

    static void leftAtAFifoOne() {
        term("at a fifo one what it serves at t (all FLOWS share it).");
        DelayBounds x = threeOver("fifo", "nine", "one");
        for (int flow = 0; flow < 3; flow++) {
            dueLeft(x, flow, 0, 0, 9, 18, 27);
        }
    }

    static void leftAtT() {
        promise(20, "What is LEFT at a hop at t (0 to 60);");
        DelayBounds x = Told.of(THREE_HOPS);
        due("at 0", x.left(0, 2, 0), 0);
        due("at 60", x.left(0, 2, 60), 116);
        due("at 61", x.left(0, 2, 61), NONE);
        due("at -1", x.left(0, 2, -1), NONE);
        due("behind the last hop", x.left(0, 3, 0), NONE);
    }

    // ---- DELAYS ----

    static void delayByWhatIsLeft() {
        term("The DELAY of a FLOW at a NODE is LATE of what ARRIVES of it and what is LEFT for it;");
        String[] kinds = {"blind", "first", "fair"};
        // slow by idle less slow: 6; by idle: 2; by half of idle: 3
        int[][] due = {{6, 6}, {2, 6}, {3, 3}};
        for (int i = 0; i < kinds.length; i++) {
            DelayBounds x = Told.of(LINES + "node n " + kinds[i] + " serves idle ; flow f sends slow over n ; "
                + "flow g sends slow over n ; ");
            due(kinds[i] + ": f", x.delay(0, 0), due[i][0]);
            due(kinds[i] + ": g", x.delay(1, 0), due[i][1]);
        }
        due("0", Told.of(LINES + "node n blind serves nine ; flow f sends slow over n ; ").delay(0, 0), 0);
    }

    static void delayAtAFifoOne() {
        term("at a fifo one of what ARRIVES of all FLOWS over it, its own, too, together, and what it serves.");
        DelayBounds x = Told.of(LINES + "node n fifo serves idle ; flow f sends slow over n ; flow g sends slow over n ; "
            + "flow h sends zero over n ; ");
        for (int flow = 0; flow < 3; flow++) {
            // 2 t + 2 by 2 t - 4
            due("of " + flow, x.delay(flow, 0), 3);
        }
        due("its own alone", Told.of(LINES + "node n fifo serves idle ; flow f sends slow over n ; ").delay(0, 0), 2);
    }

    static void settlingFrom0() {
        term("SETTLING: all DELAYS are 0 at first; in each ROUND all are told anew by those of the ROUND ahead,");
        // m in the first ROUND, n in the second one, o in the third one, none in the fourth one
        DelayBounds x = Told.of(THREE_HOPS);
        due("rounds", x.rounds(), 4);
        due("at m", x.delay(0, 0), 2);
        due("at n", x.delay(0, 1), 4);
        due("at o", x.delay(0, 2), 6);
        due("0 stays 0", Told.of(LINES + "node n blind serves nine ; flow f sends slow over n ; ").rounds(), 1);
        // by 9 t - 9 each is LATE by 1 at first; then 2 3 4 .. comes to the second hop: LATE by 2 there
        DelayBounds y = Told.of("curve slow is 0 2 again 1 adds 1 ; curve back is 0 0 again 1 adds 9 ; "
            + "node m blind serves back ; node n blind serves back ; flow f sends slow over m n ; flow g sends slow over n m ; ");
        due("rounds of a cycle", y.rounds(), 3);
        due("f", y.total(0), 3);
        due("g", y.total(1), 3);
    }

    static void settledWhenNoneChanges() {
        term("till none changes by that: they are SETTLED then.");
        DelayBounds x = Told.of(TANDEM);
        // f: 2 at m; at n by 9 t less t + 1 it is 0 for both; by 3 4 5 .. of f in the second ROUND it is 1 for f
        due("rounds", x.rounds(), 3);
        due("f at m", x.delay(0, 0), 2);
        due("f at n", x.delay(0, 1), 1);
        due("g at n", x.delay(1, 0), 0);
    }

    static void notBy60() {
        term("If any is not by 60,");
        String alone = "curve one is 0 again 1 adds 1 ; curve two is 0 again 1 adds 2 ; curve more is 1 again 1 adds 2 ; "
            + "node n fifo serves one ; ";
        due("by 60", Told.of(alone + "flow f sends two over n ; ").rounds(), 2);
        due("the DELAY of 60", Told.of(alone + "flow f sends two over n ; ").delay(0, 0), 60);
        due("not by 60", Told.of(alone + "flow f sends more over n ; ").rounds(), NONE);
        due("one that is by 60 does not help", Told.of(alone + "node m fifo serves more ; flow g sends one over m ; "
            + "flow f sends more over n ; ").rounds(), NONE);
        String twice = "curve one is 0 again 1 adds 1 ; curve a is 30 again 1 adds 1 ; curve b is 31 again 1 adds 1 ; "
            + "node m fifo serves one ; node n fifo serves one ; ";
        due("30 and 60: each is by 60", Told.of(twice + "flow f sends a over m n ; ").total(0), 90);
        due("31 and 62", Told.of(twice + "flow f sends b over m n ; ").total(0), NONE);
    }

    /** Both were found by a search; ModelTest has them, too. */
    static void notIn60Rounds() {
        term("or none is in 60 ROUNDS,");
        due("in 60 ROUNDS", Told.of("curve a is 0 1 again 2 adds 1;curve b is 0 1 3 again 3 adds 5;"
            + "node m fifo serves b;node n fifo serves b;node o blind serves b;node p blind serves b;"
            + "flow w sends a over p o m n;flow x sends a over n p;flow y sends a over p o n;").rounds(), 60);
        // all are by 60 in the 60th, and none would change in a 61st
        due("not in 60 ROUNDS", Told.of("curve a is 0 2 2 again 2 adds 2;curve b is 0 again 1 adds 2;"
            + "curve c is 0 3 5 again 3 adds 10;node m blind serves b;node n blind serves c;node o blind serves c;"
            + "node p blind serves b;flow w sends a over m n o;flow x sends a over o m n;").rounds(), NONE);
    }

    static void noneIsToldIfTheyDiverge() {
        term("they DIVERGE: none is told.");
        DelayBounds x = Told.of(DIVERGING);
        due("rounds", x.rounds(), NONE);
        for (int flow = 0; flow < 2; flow++) {
            due("delay", x.delay(flow, 0), NONE);
            due("arrives", x.arrives(flow, 0, 0), NONE);
            due("left", x.left(flow, 0, 0), NONE);
            due("total", x.total(flow), NONE);
            due("once", x.once(flow), NONE);
            int f = flow;
            dueNoSuchElement("saves", () -> x.saves(f));
        }
        for (int node = 0; node < 3; node++) {
            due("full", x.full(node), NONE);
            due("comes", x.comes(node, 0), NONE);
        }
        due("worst", x.worst(), NONE);
    }

    static void roundsAnswers() {
        promise(17, "ROUNDS (the one in which none changes, too; 1: there are no FLOWS); NONE: they DIVERGE.");
        due("of nothing", new DelayBounds().rounds(), 1);
        due("of no FLOWS", Told.of(LINES + "node n fifo serves zero ; ").rounds(), 1);
        due("none changes at once", Told.of(LINES + "node n fifo serves one ; flow f sends one over n ; ").rounds(), 1);
        due("one changes once", Told.of(LINES + "node n fifo serves idle ; flow f sends one over n ; ").rounds(), 2);
        due("they DIVERGE", Told.of(DIVERGING).rounds(), NONE);
    }

    static void delayAnswers() {
        promise(18, "DELAY at a hop; NONE: others, they DIVERGE.");
        DelayBounds x = Told.of(THREE_HOPS);
        due("the last hop", x.delay(0, 2), 6);
        due("behind it", x.delay(0, 3), NONE);
        due("ahead of the first", x.delay(0, -1), NONE);
        due("no FLOW", x.delay(1, 0), NONE);
        due("they DIVERGE", Told.of(DIVERGING).delay(1, 0), NONE);
    }

    static void arrivesOthers() {
        promise(19, "NONE: others, they DIVERGE.");
        due("no FLOW", Told.of(THREE_HOPS).arrives(1, 0, 0), NONE);
        due("they DIVERGE", Told.of(DIVERGING).arrives(1, 0, 0), NONE);
    }

    static void leftOthers() {
        promise(20, "NONE: others, they DIVERGE.");
        due("no FLOW", Told.of(THREE_HOPS).left(1, 0, 0), NONE);
        due("they DIVERGE", Told.of(DIVERGING).left(1, 0, 0), NONE);
    }

    // ---- on the whole ----

    static void totalTogether() {
        term("TOTAL of a FLOW: all its DELAYS, together.");
        due("one NODE", Told.of(LINES + "node n fifo serves idle ; flow f sends slow over n ; ").total(0), 2);
        due("three", Told.of(THREE_HOPS).total(0), 12);
        due("0", Told.of(LINES + "node n fifo serves nine ; flow f sends slow over n ; ").total(0), 0);
    }

    static void totalAnswers() {
        promise(21, "TOTAL; NONE: others, they DIVERGE.");
        DelayBounds x = Told.of(THREE_HOPS);
        due("the last FLOW", x.total(0), 12);
        due("behind it", x.total(1), NONE);
        due("-1", x.total(-1), NONE);
        due("they DIVERGE", Told.of(DIVERGING).total(1), NONE);
    }

    static void onceFolded() {
        term("ONCE of a FLOW: LATE of its CURVE and all that is LEFT for it at its NODES but the fifo ones, "
            + "FOLDED one behind the other");
        String nodes = LINES + "node a blind serves idle ; node b first serves idle ; node c fair serves idle ; ";
        // idle folded with itself: 2 t - 8, and once more: 2 t - 12
        due("one NODE", Told.of(nodes + "flow f sends slow over a ; ").once(0), 2);
        due("two", Told.of(nodes + "flow f sends slow over a c ; ").once(0), 4);
        due("three", Told.of(nodes + "flow f sends slow over c a b ; ").once(0), 6);
        due("hop by hop", Told.of(nodes + "flow f sends slow over c a b ; ").total(0), 12);
        // 9 + 9 t folded with itself is 18 + 9 t
        due("at 0, too", Told.of("curve high is 9 again 1 adds 9 ; node m blind serves high ; node n blind serves high ; "
            + "flow f sends high over m n ; ").once(0), 0);
    }

    static void onceTo120() {
        term("(at t 0 to 120; if there is none: 0),");
        // 2 t by t: LATE by 60, by what is at 120
        DelayBounds x = Told.of(LINES + "node m blind serves nine ; node n fair serves one ; flow f sends two over m n ; ");
        due("by 60", x.once(0), 60);
        due("none: 0", Told.of(LINES + "node n fifo serves nine ; flow f sends slow over n ; ").once(0), 0);
        due("none: fifo ones alone", Told.of(THREE_HOPS).once(0), 12);
    }

    static void onceAndFifo() {
        term("and its DELAYS at the fifo ones, together.");
        // 2 at m; n, alone: idle by what leaves m would be 4, but by its CURVE it is 2; 0 at o
        DelayBounds x = Told.of(LINES + "node m fifo serves idle ; node n blind serves idle ; node o fifo serves nine ; "
            + "flow f sends slow over m n o ; ");
        due("delay at o: 7 8 .. by 9 t", x.delay(0, 2), 1);
        due("once", x.once(0), 2 + 2 + 1);
        due("total", x.total(0), 2 + 4 + 1);
    }

    /** 2 t by t is LATE by 60, 2 t + 120 by 9 t - 9 by 15; but 2 t by both FOLDED, t - 1, is not by 60. */
    private static final String NO_ONCE = "curve one is 0 again 1 adds 1 ; curve two is 0 again 1 adds 2 ; "
        + "curve nine is 0 again 1 adds 9 ; curve back is 0 0 again 1 adds 9 ; "
        + "node m blind serves one ; node n blind serves back ; node o blind serves nine ; flow f sends two over m n ; "
        + "flow g sends one over o ; ";

    static void onceNotBy60() {
        promise(22, "ONCE; NONE: others, they DIVERGE, not by 60.");
        DelayBounds x = Told.of(NO_ONCE);
        due("hop by hop each is by 60", x.total(0), 75);
        due("folded it is not", x.once(0), NONE);
        due("the other FLOW", x.once(1), 0);
        due("no FLOW", x.once(2), NONE);
        due("-1", x.once(-1), NONE);
        due("by 60: t", Told.of(NO_ONCE.replace("serves back", "serves nine")).once(0), 60);
        due("they DIVERGE", Told.of(DIVERGING).once(1), NONE);
    }

    static void full0AtLeast() {
        term("FULL of a NODE: BEHIND of all that ARRIVES there, together, and what it serves (0 at least).");
        DelayBounds x = Told.of("curve high is 9 again 1 adds 9 ; curve one is 0 again 1 adds 1 ; curve two is 0 again 1 adds 2 ; "
            + "node a fair serves high ; node b fifo serves one ; node c blind serves high ; flow f sends two over b ; "
            + "flow g sends one over c ; ");
        due("9 less than 0 where none comes", x.full(0), 0);
        due("at 60, not 61: 2 t less t", x.full(1), 60);
        due("less than 0", x.full(2), 0);
        due("of two together at 1: 2 and 2 less 0", Told.of(LINES + "node n fifo serves idle ; flow f sends slow over n ; "
            + "flow g sends slow over n ; ").full(0), 6);
        // 7 8 9 .. by idle: 8 less 0 at 1, 9 less 0 at 2, then less
        due("DELAYS ahead are in it", Told.of(THREE_HOPS).full(0), 9);
    }

    static void fullAnswers() {
        promise(23, "FULL; NONE: others, they DIVERGE.");
        DelayBounds x = Told.of(THREE_HOPS);
        due("the last NODE", x.full(2), 5);
        due("behind it", x.full(3), NONE);
        due("-1", x.full(-1), NONE);
        due("they DIVERGE", Told.of(DIVERGING).full(2), NONE);
    }

    static void comesTogether() {
        term("COMES of a NODE at t: all that ARRIVES there, together.");
        DelayBounds x = Told.of(TANDEM + "node k fair serves one ; ");
        due("f 2 later, and g, at 0", x.comes(1, 0), 3 + 0);
        due("at 1", x.comes(1, 1), 4 + 2);
        due("at 60", x.comes(1, 60), 63 + 61);
        due("where no FLOW goes", x.comes(2, 60), 0);
    }

    static void comesAtT() {
        promise(24, "COMES at t (0 to 60); NONE: others, they DIVERGE.");
        DelayBounds x = Told.of(TANDEM);
        due("at 0", x.comes(0, 0), 0);
        due("at 60", x.comes(0, 60), 61);
        due("at 61", x.comes(0, 61), NONE);
        due("at -1", x.comes(0, -1), NONE);
        due("the last NODE", x.comes(1, 0), 3);
        due("behind it", x.comes(2, 0), NONE);
        due("-1", x.comes(-1, 0), NONE);
        due("they DIVERGE", Told.of(DIVERGING).comes(2, 0), NONE);
    }

    static void savesLessThan0() {
        term("SAVES of a FLOW: TOTAL less ONCE.");
        // 0 2 2 6 10 .. by itself is 0; by itself FOLDED with itself, 4 t - 12, it is 2
        DelayBounds x = Told.of("curve a is 0 2 2 again 1 adds 4 ; node m blind serves a ; node n blind serves a ; flow f sends a over m n ; ");
        due("total", x.total(0), 0);
        due("once", x.once(0), 2);
        due("less than 0", x.saves(0), -2);
        due("0", Told.of(THREE_HOPS).saves(0), 0);
        due("6", Told.of(THREE_HOPS.replace("fifo", "blind")).saves(0), 6);
        // 0 4 4 8 12 .. by 4 t - 8: as NONE would be
        DelayBounds y = Told.of("curve a is 0 4 4 again 1 adds 4 ; node m blind serves a ; node n blind serves a ; flow f sends a over m n ; ");
        due("-1", y.saves(0), -1);
    }

    static void savesThrows() {
        promise(25, "SAVES; NoSuchElementException: others, there is no ONCE.");
        DelayBounds x = Told.of(THREE_HOPS);
        due("the last FLOW", x.saves(0), 0);
        dueNoSuchElement("behind it", () -> x.saves(1));
        dueNoSuchElement("-1", () -> x.saves(-1));
        dueNoSuchElement("they DIVERGE", () -> Told.of(DIVERGING).saves(1));
        dueNoSuchElement("TOTAL is there, ONCE is not", () -> Told.of(NO_ONCE).saves(0));
        due("of the other FLOW", Told.of(NO_ONCE).saves(1), 0);
    }

    static void worstOfEqualOnes() {
        term("WORST: the FLOW whose TOTAL is the greatest; of equal ones the first.");
        String two = " serves idle ; flow f sends slow over n ; flow g sends slow over n ; flow h sends zero over e ; ";
        due("equal", Told.of(LINES + "node e fifo serves one ; node n fair" + two).worst(), 0);
        due("the second one", Told.of(LINES + "node e fifo serves one ; node n first" + two).worst(), 1);
        due("all 0", threeOver("blind", "nine", "zero").worst(), 0);
        due("the last of four", Told.of(LINES + "node e fifo serves nine ; node n fifo serves idle ; flow f sends one over e ; "
            + "flow g sends one over e ; flow h sends one over e ; flow k sends slow over n ; ").worst(), 3);
    }

    static void worstAnswers() {
        promise(26, "WORST; NONE: no FLOWS, they DIVERGE.");
        due("nothing", new DelayBounds().worst(), NONE);
        due("no FLOWS", Told.of(LINES + "node n fifo serves one ; ").worst(), NONE);
        due("one FLOW", Told.of(LINES + "node n fifo serves one ; flow f sends one over n ; ").worst(), 0);
        due("they DIVERGE", Told.of(DIVERGING).worst(), NONE);
    }

    static void tryOfACurve() {
        term("TRY of a NODE, a CURVE and a FLOW: its TOTAL if that NODE served by that CURVE.");
        DelayBounds x = Told.of(TANDEM);
        due("TOTAL ahead", x.total(0), 3);
        due("as told", x.tries(0, IDLE, 0), 3);
        due("m by nine: 0 at both", x.tries(0, NINE, 0), 0);
        due("of a FLOW that does not go there", x.tries(0, NINE, 1), 0);
        due("n by idle", x.tries(1, IDLE, 0), 2 + 8);
        due("all is as ahead: TOTAL", x.total(0), 3);
        due("ROUNDS", x.rounds(), 3);
        due("what is LEFT", x.left(0, 1, 2), 15);
        due("the CURVE", x.node(1, 1), NINE);
    }

    static void tryIsTheTotalOfThatNet() {
        term("its TOTAL if that NODE served by that CURVE.");
        String[] curves = {"one", "two", "nine", "slow", "idle", "zero"};
        DelayBounds x = Told.of(TANDEM);
        for (int curve = 0; curve < 6; curve++) {
            DelayBounds m = Told.of(TANDEM.replace("m fifo serves idle", "m fifo serves " + curves[curve]));
            DelayBounds n = Told.of(TANDEM.replace("n blind serves nine", "n blind serves " + curves[curve]));
            for (int flow = 0; flow < 2; flow++) {
                due("m by " + curves[curve], x.tries(0, curve, flow), m.total(flow));
                due("n by " + curves[curve], x.tries(1, curve, flow), n.total(flow));
                due("as told", x.total(flow), flow == 0 ? 3 : 0);
            }
        }
    }

    static void theNetFromThenOn() {
        term("Without a FAULT a NET is the NET from then on:");
        DelayBounds x = Told.of(LINES + "node m fifo serves idle ; node n blind serves nine ; flow f sends slow over n ; "
            + "flow g sends slow over m n ; ");
        due("rounds of the first", x.rounds(), 3);
        due("tries of the first", x.tries(1, IDLE, 0), 8);
        due("at n at 0", x.comes(1, 0), 3);
        // g goes to n no more: 2 t by t is LATE by 60
        Told.net(x, LINES + "node m blind serves nine ; node n blind serves one ; flow f sends two over n ; flow g sends slow over m ; ");
        due("rounds of the second", x.rounds(), 2);
        due("f", x.total(0), 60);
        due("g", x.total(1), 0);
        due("at n at 0", x.comes(1, 0), 0);
        due("at n at 60", x.comes(1, 60), 120);
        due("tries of the second", x.tries(1, IDLE, 0), 2);
        due("FLOWS over m", x.node(0, 2), 2);
        due("FLOWS over n", x.node(1, 2), 1);
        Told.net(x, LINES + "node m fair serves nine ; node n fair serves two ; flow f sends one over n ; ");
        due("FLOWS over m of the third", x.node(0, 2), 0);
        due("FLOWS over n of the third", x.node(1, 2), 1);
        due("all of n is LEFT for f", x.left(0, 0, 1), 2);
        due("tries of the third", x.tries(1, IDLE, 0), 2);
        // of a text with a FAULT nothing is there
        Told.net(x, LINES + "node m fair serves nine ; node n fair serves two ; flow f sends one over n m ; flow g sends one over n ; ~");
        due("all of n is LEFT still", x.left(0, 0, 1), 2);
        Told.net(x, LINES + "node m fair serves nine ; node n fair serves two ; flow f sends one over m ; ");
        due("FLOWS over n of the fourth", x.node(1, 2), 0);
        due("FLOWS over m of the fourth", x.node(0, 2), 1);
        due("all of m is LEFT", x.left(0, 0, 1), 9);
        Told.net(x, LINES + "node m blind serves nine ; node n blind serves nine ; flow f sends one over n ; flow g sends slow over m ; ");
        due("f comes to m no more", x.comes(0, 1), 2);
    }

    static void triesAnswers() {
        promise(27, "TRY; NONE: others, they DIVERGE then.");
        DelayBounds x = Told.of(TANDEM);
        due("they DIVERGE then", x.tries(1, ONE, 0), NONE);
        due("they DIVERGE by another FLOW", x.tries(1, ZERO, 1), NONE);
        due("the last ones", x.tries(1, NINE, 1), 0);
        due("the last CURVE", x.tries(0, ZERO, 1), NONE);
        due("no NODE", x.tries(2, NINE, 1), NONE);
        due("no CURVE", x.tries(1, 6, 1), NONE);
        due("no FLOW", x.tries(1, NINE, 2), NONE);
        due("NODE -1", x.tries(-1, NINE, 1), NONE);
        due("CURVE -1", x.tries(1, -1, 1), NONE);
        due("FLOW -1", x.tries(1, NINE, -1), NONE);
        due("what DIVERGES as told", Told.of(DIVERGING).tries(0, 1, 0), 0);
        due("they DIVERGE still", Told.of(DIVERGING).tries(1, 1, 1), NONE);
        due("by 60", Told.of(LINES + "node n fifo serves nine ; flow f sends two over n ; ").tries(0, ONE, 0), 60);
        due("where no FLOW goes", Told.of(LINES + "node n fifo serves nine ; node e fifo serves one ; "
            + "flow f sends slow over n ; ").tries(1, ZERO, 0), 0);
    }

    static void tuneTheLeast() {
        term("TUNE of a NODE and a FLOW: the CURVE by which that is the least (none: it DIVERGES); of equal ones the first.");
        // slow by one: 1, by two: 0, by nine: 0, by idle: 2; by zero it DIVERGES
        due("of equal ones the first", Told.of(LINES + "node n fifo serves one ; flow f sends slow over n ; ").tune(0, 0), TWO);
        due("the first of all", Told.of(LINES + "node n fifo serves zero ; flow f sends one over n ; ").tune(0, 0), ONE);
        due("where the first ones DIVERGE", Told.of("curve zero is 0 again 1 adds 0 ; curve late is 0 0 again 1 adds 1 ; "
            + "curve one is 0 again 1 adds 1 ; node n fifo serves late ; flow f sends one over n ; ").tune(0, 0), 2);
        due("the last of all", Told.of("curve a is 0 again 1 adds 1 ; curve b is 0 again 1 adds 2 ; node n fifo serves a ; "
            + "flow f sends b over n ; ").tune(0, 0), 1);
        due("by 60", Told.of("curve a is 0 again 1 adds 1 ; curve b is 0 again 1 adds 2 ; node n fair serves a ; "
            + "flow f sends b over n ; flow g sends a over n ; ").tune(0, 0), 1);
    }

    static void tuneAnswers() {
        promise(28, "TUNE; NONE: others, by none.");
        DelayBounds x = Told.of("curve a is 0 again 1 adds 1 ; curve b is 1 again 1 adds 2 ; node n fair serves a ; "
            + "flow f sends b over n ; flow g sends b over n ; ");
        due("by none", x.tune(0, 0), NONE);
        due("no NODE", x.tune(1, 0), NONE);
        due("no FLOW", x.tune(0, 2), NONE);
        due("NODE -1", x.tune(-1, 0), NONE);
        due("FLOW -1", x.tune(0, -1), NONE);
        due("the last ones", Told.of(TANDEM).tune(1, 1), NINE);
        due("behind them", Told.of(TANDEM).tune(2, 1), NONE);
        due("behind them", Told.of(TANDEM).tune(1, 2), NONE);
    }
}
