/** Boundary cases of CURVES by themselves. */
final class EdgesOfCurves extends Edges {
    /** one: t, two: 2 t, nine: 9 t, high: 9 + 9 t, five: 5, zero: 0. */
    private static final String LINES = "curve one is 0 again 1 adds 1 ; curve two is 0 again 1 adds 2 ; "
        + "curve nine is 0 again 1 adds 9 ; curve high is 9 again 1 adds 9 ; curve five is 5 again 1 adds 0 ; "
        + "curve zero is 0 again 1 adds 0 ; ";
    private static final int ONE = 0;
    private static final int TWO = 1;
    private static final int NINE = 2;
    private static final int HIGH = 3;
    private static final int FIVE = 4;
    private static final int ZERO = 5;

    private static DelayBounds lines() {
        return Told.of(LINES);
    }

    private static DelayBounds curves(String... all) {
        StringBuilder text = new StringBuilder();
        for (int i = 0; i < all.length; i++) {
            text.append("curve ").append((char) ('a' + i)).append(" is ").append(all[i]).append(" ; ");
        }
        return Told.of(text.toString());
    }

    private static void values(String curve, int... due) {
        DelayBounds x = curves(curve);
        for (int t = 0; t < due.length; t++) {
            due(curve + " at " + t, x.value(0, t), due[t]);
        }
    }

    static void curveBehindItsValues() {
        term("A CURVE at t (0, 1, 2 ..) is its VALUE of that number (from 0), or, behind these, what it is at t less "
            + "again, and adds more.");
        values("7 again 1 adds 0", 7, 7, 7);
        values("7 again 1 adds 2", 7, 9, 11, 13);
        values("1 4 6 9 again 3 adds 10", 1, 4, 6, 9, 14, 16, 19, 24, 26, 29, 34);
        values("1 4 6 9 again 1 adds 10", 1, 4, 6, 9, 19, 29);
        values("1 4 6 9 again 4 adds 8", 1, 4, 6, 9, 9, 12, 14, 17, 17, 20);
        values("0 0 0 0 0 0 0 99 again 8 adds 99", 0, 0, 0, 0, 0, 0, 0, 99, 99, 99, 99, 99, 99, 99, 99, 198);
        values("0 0 0 0 0 0 0 99 again 1 adds 99", 0, 0, 0, 0, 0, 0, 0, 99, 198, 297);
        due("the most that there is", curves("99 again 1 adds 99").value(0, 120), 99 + 120 * 99);
    }

    static void foldFrom0ToT() {
        term("FOLD of two at t: the least of what the first one is at s and the second one at t - s, together, "
            + "s from 0 to t.");
        DelayBounds x = lines();
        due("at 0: both at 0", x.fold(HIGH, FIVE, 0), 14);
        due("s is 0", x.fold(NINE, ONE, 5), 5);
        due("s is t", x.fold(ONE, NINE, 5), 5);
        due("s is 0 at 120", x.fold(NINE, ONE, 120), 120);
        due("s is t at 120", x.fold(ONE, NINE, 120), 120);
        due("what they are at 0 comes to it", x.fold(HIGH, NINE, 1), 18);
        // 0 0 9 .. with itself: at 2 by 1 and 1, at 3 by 1 and 2
        DelayBounds y = curves("0 0 9 again 1 adds 9");
        due("s is 1 of 2", y.fold(0, 0, 2), 0);
        due("s is 1 of 3", y.fold(0, 0, 3), 9);
    }

    static void foldAtT() {
        promise(10, "FOLD at t (0 to 120);");
        DelayBounds x = lines();
        due("at 0", x.fold(ONE, TWO, 0), 0);
        due("at 120", x.fold(TWO, NINE, 120), 240);
        due("at 121", x.fold(TWO, NINE, 121), NONE);
        due("at -1", x.fold(TWO, NINE, -1), NONE);
    }

    static void unfoldFrom0To60() {
        term("UNFOLD of two at t: the most of what the first one is at t + s less the second one at s, s from 0 to 60.");
        DelayBounds x = lines();
        due("s is 0", x.unfold(FIVE, NINE, 0), 5);
        due("s is 60, not 61", x.unfold(TWO, ONE, 0), 60);
        due("s is 60 behind t 60", x.unfold(TWO, ONE, 60), 180);
        due("s is 0 at 60", x.unfold(ONE, NINE, 60), 60);
        due("less than 0", x.unfold(ONE, HIGH, 0), -9);
        due("less than 0 by all", x.unfold(ZERO, HIGH, 60), -9);
        // 0 0 7 7 .. less 0 0 0 7 8 ..: 7 at 2
        due("s is 1", curves("0 7 again 1 adds 0", "0 0 1 again 1 adds 1").unfold(0, 1, 0), 7);
        due("s between", curves("0 0 7 again 1 adds 0", "0 0 0 7 again 1 adds 1").unfold(0, 1, 0), 7);
    }

    static void unfoldAtT() {
        promise(11, "UNFOLD at t (0 to 60);");
        DelayBounds x = lines();
        due("at 0", x.unfold(TWO, TWO, 0), 0);
        due("at 60", x.unfold(TWO, TWO, 60), 120);
        dueNoSuchElement("at 61", () -> x.unfold(TWO, TWO, 61));
        dueNoSuchElement("at -1", () -> x.unfold(TWO, TWO, -1));
    }

    static void starIs0At0() {
        term("STAR of a CURVE at t: 0 at 0;");
        DelayBounds x = lines();
        due("of high, that is 9 at 0", x.star(HIGH, 0), 0);
        due("of zero", x.star(ZERO, 0), 0);
        x.late(HIGH, HIGH);
        due("behind another call", x.star(HIGH, 0), 0);
        x.fold(HIGH, HIGH, 9);
        due("behind another call, at 2", x.star(HIGH, 2), 27);
    }

    static void starElse() {
        term("else the least of what it is at t, and of its STARS at s and t - s, together, s from 1 to t - 1.");
        DelayBounds x = lines();
        due("of high at 1", x.star(HIGH, 1), 18);
        due("of high at 2: 27, not 36", x.star(HIGH, 2), 27);
        due("of five at 1: it is not 0 and 5", x.star(FIVE, 1), 5);
        due("of one at 60", x.star(ONE, 60), 60);
        // 0 5 5 20 29 ..: by 2 and 2 at 4, by three of these at 6
        DelayBounds y = curves("0 5 5 20 again 1 adds 9");
        int[] due = {0, 5, 5, 10, 10, 15, 15, 20, 20};
        for (int t = 0; t < due.length; t++) {
            due("of 0 5 5 20 29 at " + t, y.star(0, t), due[t]);
        }
    }

    static void starAtT() {
        promise(12, "STAR at t (0 to 60);");
        DelayBounds x = lines();
        due("at 60", x.star(HIGH, 60), 549);
        due("at 61", x.star(HIGH, 61), NONE);
        due("at -1", x.star(HIGH, -1), NONE);
    }

    static void lateDFrom0To60() {
        term("LATE of two: the least d (0 to 60) so that");
        DelayBounds x = curves("0 again 1 adds 1", "0 again 1 adds 2", "1 again 1 adds 2", "60 again 1 adds 1",
            "61 again 1 adds 1", "0 again 1 adds 0");
        due("0: never more", x.late(0, 1), 0);
        due("0: always alike", x.late(0, 0), 0);
        due("60: 60 + t by t", x.late(3, 0), 60);
        due("61: 61 + t by t", x.late(4, 0), NONE);
        due("60: 2 t by t", x.late(1, 0), 60);
        due("never", x.late(0, 5), NONE);
    }

    static void lateAt0To60() {
        term("the first one is nowhere, at 0 to 60, more than the second one is d further on.");
        DelayBounds x = curves("5 again 1 adds 0", "0 again 1 adds 1", "60 again 1 adds 0", "59 again 1 adds 0",
            "0 again 1 adds 2", "0 2 again 1 adds 0");
        due("at 0 alone: 5 by t", x.late(0, 1), 5);
        due("at 1 alone: 0 2 2 .. by t", x.late(5, 1), 1);
        due("not at 61: t by 60", x.late(1, 2), 0);
        due("at 60: t by 59", x.late(1, 3), NONE);
        due("at 60: 2 t by t", x.late(4, 1), 60);
    }

    static void lateNotBy60() {
        promise(14, "LATE of two CURVES; NONE: others, not by 60.");
        DelayBounds x = curves("60 again 1 adds 1", "0 again 1 adds 1", "61 again 1 adds 1");
        due("by 60", x.late(0, 1), 60);
        due("not by 60", x.late(2, 1), NONE);
        due("by 1", x.late(2, 0), 1);
        due("others", x.late(0, 3), NONE);
        due("others", x.late(3, 0), NONE);
        due("others", x.late(-1, 0), NONE);
        due("others", x.late(0, -1), NONE);
    }

    static void behindAt0To60() {
        term("BEHIND of two: the most by which the first one is more than the second one, at 0 to 60 "
            + "(less than 0: nowhere).");
        DelayBounds x = lines();
        due("at 0: 9 + 9 t less 9 t", x.behind(HIGH, NINE), 9);
        due("at 0 alone: 5 less t", x.behind(FIVE, ONE), 5);
        due("at 1 alone: 0 7 7 .. less 0 0 1 2 ..", curves("0 7 again 1 adds 0", "0 0 1 again 1 adds 1").behind(0, 1), 7);
        due("at 60, not 61: 2 t less t", x.behind(TWO, ONE), 60);
        due("alike", x.behind(TWO, TWO), 0);
        due("less than 0", x.behind(NINE, HIGH), -9);
        due("less than 0, the most at 60", curves("0 again 1 adds 2", "99 again 1 adds 1").behind(0, 1), -39);
        due("less than 0, the most at 0", x.behind(ZERO, HIGH), -9);
    }

    static void valueAtT() {
        term("VALUE of a CURVE at t (0 to 120).");
        DelayBounds x = lines();
        due("at 0", x.value(HIGH, 0), 9);
        due("at 1", x.value(HIGH, 1), 18);
        due("at 120", x.value(HIGH, 120), 1089);
        due("at 121", x.value(HIGH, 121), NONE);
        due("at -1", x.value(HIGH, -1), NONE);
    }

    static void subNowhereLess() {
        term("SUB of a CURVE: whether what it is at s and t, together, is nowhere less than at s + t "
            + "(s, t from 1, these together to 60).");
        due("alike everywhere", lines().sub(ONE), true);
        due("0", lines().sub(ZERO), true);
        due("at 1 and 1: 2 by 3", curves("0 1 3 again 1 adds 0").sub(0), false);
        due("at 1 and 1: 2 by 2", curves("0 1 2 again 1 adds 0").sub(0), true);
        due("at 1 and 2: 11 by 12", curves("0 5 6 12 again 1 adds 0").sub(0), false);
        due("at 1 and 2: 12 by 12", curves("0 5 7 12 again 1 adds 0").sub(0), true);
        due("at 2 and 2: 12 by 13", curves("0 6 6 9 13 again 1 adds 0").sub(0), false);
        due("at 2 and 2: 12 by 12", curves("0 6 6 9 12 again 1 adds 0").sub(0), true);
        due("9 at 0 does not help", curves("9 9 20 again 1 adds 0").sub(0), false);
        // 2 2 3 4 4 4 4 4 6 7 7 7 7 7 9 ..: not before 14
        due("at 7 and 7: 8 by 9", curves("2 2 3 4 4 4 4 4 again 6 adds 3").sub(0), false);
        due("at 7 and 7: 8 by 7", curves("2 2 3 4 4 4 4 4 again 6 adds 2").sub(0), true);
    }

    static void bendsByStepsFrom0() {
        term("STEPS of a CURVE: how much more it is at t + 1 than at t (t 0 to 60);");
        due("the first is more", curves("0 2 again 1 adds 1").curve(0, 4), 1);
        due("the first is less", curves("0 0 again 1 adds 1").curve(0, 4), 2);
        due("what it is at 0 is none", curves("9 again 1 adds 1").curve(0, 4), 3);
        due("the eighth is more", curves("0 1 2 3 4 5 6 7 again 1 adds 2").curve(0, 4), 2);
        due("the eighth is less", curves("0 2 4 6 8 10 12 14 again 1 adds 1").curve(0, 4), 1);
        due("where it begins again", curves("0 1 2 3 4 5 6 7 again 8 adds 9").curve(0, 4), 0);
        due("where it begins again, alike", curves("0 1 2 3 4 5 6 7 again 8 adds 8").curve(0, 4), 3);
        // 0 7 8 9 10 .. 13, then 13 + 7 less 6 ..: one more behind that
        due("behind that", curves("0 7 8 9 10 11 12 13 again 7 adds 8").curve(0, 4), 0);
    }

    static void bends() {
        term("BENDS: 1 if none of these is more than the one ahead, 2 if none is less, 3 both, 0 neither.");
        due("1", curves("0 5 8 10 again 1 adds 2").curve(0, 4), 1);
        due("2", curves("0 1 3 6 again 1 adds 3").curve(0, 4), 2);
        due("3", curves("0 again 1 adds 4").curve(0, 4), 3);
        due("3 of 0", curves("4 again 1 adds 0").curve(0, 4), 3);
        due("0", curves("0 1 3 4 again 1 adds 1").curve(0, 4), 0);
        due("0 the other way", curves("0 2 3 5 again 1 adds 2").curve(0, 4), 0);
        due("0 by steps", curves("0 0 3 again 2 adds 3").curve(0, 4), 0);
    }

    static void rateIsCut() {
        term("RATE of a CURVE: adds, times 1000, divided by again, cut.");
        due("0", curves("5 again 1 adds 0").curve(0, 3), 0);
        due("the most", curves("5 again 1 adds 99").curve(0, 3), 99000);
        due("2 in 3: 666.67", curves("0 0 0 again 3 adds 2").curve(0, 3), 666);
        due("1 in 7: 142.86", curves("0 0 0 0 0 0 0 again 7 adds 1").curve(0, 3), 142);
        due("1 in 8: 125", curves("0 0 0 0 0 0 0 0 again 8 adds 1").curve(0, 3), 125);
        due("99 in 8: 12375", curves("0 0 0 0 0 0 0 0 again 8 adds 99").curve(0, 3), 12375);
    }

    static void aboveTheFirst() {
        term("ABOVE of two CURVES: the first t (0 to 60) at which the first one is more than the second one.");
        DelayBounds x = curves("0 again 1 adds 1", "59 again 1 adds 0", "60 again 1 adds 0", "1 again 1 adds 1",
            "1 1 again 1 adds 1");
        due("at 0", x.above(3, 0), 0);
        due("the first of all", x.above(0, 0), NONE);
        due("at 60", x.above(0, 1), 60);
        due("at 61", x.above(0, 2), NONE);
        due("alike is not more: 1 2 3 by 1 1 2", x.above(3, 4), 1);
    }

    static void aboveNowhere() {
        promise(16, "ABOVE; NONE: others, nowhere.");
        DelayBounds x = curves("0 again 1 adds 1", "0 again 1 adds 2");
        due("nowhere", x.above(0, 1), NONE);
        due("alike", x.above(0, 0), NONE);
        due("somewhere", x.above(1, 0), 1);
        due("others", x.above(1, 2), NONE);
        due("others", x.above(2, 0), NONE);
        due("others", x.above(-1, 0), NONE);
        due("others", x.above(1, -1), NONE);
    }
}
