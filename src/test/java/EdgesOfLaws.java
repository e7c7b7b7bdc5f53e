/** Boundary cases of E, the law of what is LOST. */
final class EdgesOfLaws extends Edges {
    private static final String ONE = "curve one is 0 again 1 adds 1 ; ";

    /** How many of 3 UNITS are not LOST: 3 if E is 0, none if it is not. */
    private static void kept(int due, String law) {
        DelayBounds x = Told.of(ONE + "node n fifo serves one ; flow f sends one over n ; loses " + law + " ;");
        due("3 put where it loses " + law, x.put(0, 3), due);
    }

    private static void isSo(String law) {
        kept(0, law);
    }

    private static void isNot(String law) {
        kept(3, law);
    }

    static void andOrFromTheLeft() {
        term("E: TEST { and TEST or or TEST }, from the left;");
        isNot("1 or 1 and 0");
        isSo("0 and 1 or 1");
        isSo("0 and 0 or 1");
        isNot("1 or 0 and 0");
        isNot("1 or 0 or 1 and 1 and 0");
        isSo("1");
        isNot("0");
        net(1, "loses `and 1;");
        net(1, "loses `or 1;");
        net(1, "loses 1 and `;");
        net(1, "loses 1 or `;");
        net(1, "loses 1 and `or 1;");
        net(0, "loses " + times("1or ", 248) + "1;");
    }

    static void oneTestHasOneSign() {
        term("TEST: SUM, or SUM < SUM, or SUM = SUM;");
        net(1, "loses 1 < 2 `< 3;");
        net(1, "loses 1 < 2 `= 3;");
        net(1, "loses 1 = 2 `< 3;");
        net(1, "loses 1 = 2 `= 3;");
        net(0, "loses 1 < 2 and 3 = 4 or 5 < 6;");
        net(0, "loses (1 < 2) < 3;");
        net(0, "loses 1 < (2 < 3);");
        net(1, "loses `< 3;");
        net(1, "loses 1 < `;");
        net(1, "loses 1 = `= 1;");
        isNot("3 < 3");
        isSo("2 < 3");
        isNot("3 < 2");
        isSo("3 = 3");
        isNot("3 = 4");
        // + and - hold closer than < and =, these closer than and, or
        isSo("1 + 1 < 1 + 2");
        isSo("2 = 1 + 1");
        isNot("0 and 1 = 0");
        isSo("1 or 1 < 1");
    }

    static void sumsFromTheLeft() {
        term("SUM: PRODUCT { + or - PRODUCT };");
        isSo("9 - 4 - 3 = 2");
        isSo("9 - 4 + 3 = 8");
        isSo("1 - 2 < 0");
        isNot("5 - 5");
        net(1, "loses `- 1;");
        net(1, "loses `+ 1;");
        net(1, "loses 1 - `;");
        net(1, "loses 1 + `- 1;");
        net(0, "loses " + times("1+", 496) + "1;");
        net(1, "loses " + times("1+", 497) + "`");
    }

    static void productsFirst() {
        term("PRODUCT: PART { * PART };");
        isSo("1 + 2 * 3 = 7");
        isSo("2 * 3 + 1 = 7");
        isSo("2 * 3 * 4 = 24");
        isNot("2 * 0");
        net(1, "loses `* 1;");
        net(1, "loses 1 * `;");
        net(1, "loses 1 * `* 1;");
    }

    static void parts() {
        term("PART: a NUMBER, a fact, not PART, ( E );");
        isNot("0");
        isNot("0000");
        isSo("9999 = 9998 + 1");
        isSo("not 0");
        isNot("not 9999");
        isSo("not not 5 = 1");
        // not holds the PART behind it and no more
        isSo("not 1 < 5");
        isSo("not 1 + 1");
        isNot("not 0 * 0");
        isSo("not 1 or 1");
        isNot("not ( 1 or 1 )");
        isSo("( 1 or 0 ) and 1");
        isSo("2 * ( 3 + 4 ) = 14");
        net(1, "loses ( `) ;");
        net(1, "loses ( 1 `;");
        net(1, "loses 1 `) ;");
        net(1, "loses ( 1 ) `) ;");
        net(1, "loses not `;");
        net(1, "loses 1 `not 1;");
        net(1, "loses 1 `( 1 );");
        net(1, "loses ( 1 ) `1;");
        net(1, "loses 1 `here;");
        net(1, "loses here `which;");
        net(1, "loses `there;");
    }

    static void within5() {
        term("no PART lies within 5 of not and ( ).");
        net(0, "loses ((((1))));");
        net(5, "loses (((((`1)))));");
        net(0, "loses not not not not 1;");
        net(5, "loses not not not not not `1;");
        net(0, "loses not ( not ( 1 ) );");
        net(5, "loses not ( not ( not `1 ) );");
        net(5, "loses ( not ( not ( `1 ) ) );");
        // those that lie beside it do not count
        net(0, "loses ((((1)))) + ((((1)))) * not not not not 1 and not ( not ( 1 ) );");
        net(0, "loses (((( 1 + 2 * 3 < 4 and 5 ))));");
        net(5, "loses (((( 1 + 2 * 3 < 4 and ( `5 ) ))));");
        isSo("(((( 7 )))) = 7");
        isSo("not not not not 7 = 1");
        // each depth has all that can wait there waiting
        String deep = "0 or 1 = 0 + 1 * ";
        isSo(deep + "( " + deep + "( " + deep + "( " + deep + "( " + deep + "1 ) ) ) )");
        isNot(deep + "( " + deep + "( " + deep + "( " + deep + "( " + deep + "0 ) ) ) )");
    }

    static void queueIsAtTheFirstNode() {
        term("Facts: queue (how many UNITS are at the first NODE of the FLOW),");
        DelayBounds x = Told.of(ONE + "node m fifo serves one ; node n fifo serves one ; flow f sends one over n m ; "
            + "flow g sends one over n ; flow h sends one over m ; loses 1 < queue ;");
        due("of an empty NODE, and of one", x.put(1, 3), 2);
        due("UNITS of others are there, too", x.put(0, 1), 0);
        due("at another NODE none is", x.put(2, 2), 2);
        x.tick();
        due("behind a TICK one is there", x.put(0, 2), 1);
        x.tick();
        x.tick();
        due("f is at m", x.node(0, 3), 1);
        due("UNITS of f further on are not there", x.put(0, 3), 2);
    }

    static void hereIsAllOver() {
        term("here (how many UNITS there are),");
        DelayBounds x = Told.of(ONE + "node m fifo serves one ; node n fifo serves one ; flow f sends one over m n ; "
            + "flow g sends one over n ; loses 3 < here ;");
        due("f", x.put(0, 2), 2);
        x.tick();
        due("at m and at n", x.node(0, 3) * 10 + x.node(1, 3), 11);
        due("g with those of both NODES", x.put(1, 4), 2);
        x.tick();
        due("one is GONE", x.put(0, 1), 1);
        DelayBounds y = Told.of(ONE + "node m fifo serves one ; flow f sends one over m ; loses here = 39 ;");
        for (int i = 0; i < 4; i++) {
            due("nine", y.put(0, 9), 9);
        }
        due("the last of four is LOST", y.put(0, 4), 3);
        due("39 are there", y.count(4), 39);
        due("a 40th is LOST each time", y.put(0, 1), 0);
    }

    static void whichIsTheFlow() {
        term("which (the FLOW's number),");
        String four = ONE + "node m fifo serves one ; flow f sends one over m ; flow g sends one over m ; "
            + "flow h sends one over m ; flow i sends one over m ; loses which";
        for (int flow = 0; flow < 4; flow++) {
            due("0 is FLOW 0 alone", Told.of(four + " ;").put(flow, 1), flow == 0 ? 1 : 0);
            due("3 is FLOW 3 alone", Told.of(four + " = 3 ;").put(flow, 1), flow == 3 ? 0 : 1);
        }
    }

    static void timeFrom0To59() {
        term("which (the FLOW's number), time.");
        DelayBounds x = Told.of(ONE + "node m fifo serves one ; flow f sends one over m ; loses time = 0 or time = 59 ;");
        for (int t = 0; t < 60; t++) {
            due("put at " + t, x.put(0, 1), t == 0 || t == 59 ? 0 : 1);
            x.tick();
        }
    }

    static void of1Or0() {
        term("Of not, and, or, < and = comes 1 or 0;");
        for (String law : new String[] {"( 3 < 4 ) = 1", "( 4 < 3 ) = 0", "( 5 = 5 ) = 1", "( 5 = 6 ) = 0",
            "( 2 and 3 ) = 1", "( 2 and 0 ) = 0", "( 0 and 2 ) = 0", "( 0 or 9 ) = 1", "( 9 or 0 ) = 1", "( 9 or 9 ) = 1",
            "( 0 or 0 ) = 0", "not 5 = 0", "not 0 = 1", "not not 9 = 1"}) {
            isSo(law);
        }
    }

    static void whatIsNot0IsSo() {
        term("what is not 0 is so;");
        isSo("1");
        isSo("9999");
        isSo("0 - 1");
        isSo("2 - 4 and 1 - 9");
        isSo("0 or 0 - 7");
        isNot("not ( 0 - 1 )");
        isNot("7 - 7");
        isNot("1 and 0");
    }

    static void intsWrap() {
        term("ints wrap.");
        // 2 to the 32nd, 31st, and these less or more 1
        isNot("256 * 256 * 256 * 256");
        isSo("256 * 256 * 256 * 256 + 1 = 1");
        isSo("128 * 256 * 256 * 256 < 0");
        isSo("0 < 128 * 256 * 256 * 256 - 1");
        isSo("( 128 * 256 * 256 * 256 - 1 ) + 1 < 0");
        isSo("0 - 128 * 256 * 256 * 256 < 0");
        // 2,199,560,022 and 2,099,580,021
        isSo("9999 * 9999 * 22 < 0");
        isNot("9999 * 9999 * 21 < 0");
    }

    static void withoutLoses() {
        term("Without loses: 0.");
        DelayBounds x = Told.of(ONE + "node m fifo serves one ; flow f sends one over m ;");
        for (int i = 0; i < 4; i++) {
            due("nine", x.put(0, 9), 9);
        }
        due("the 40th, too", x.put(0, 4), 4);
        due("none is LOST", x.count(6), 0);
        // nor is there one left of the NET ahead
        DelayBounds y = Told.of("loses 1 ;");
        Told.net(y, ONE + "node m fifo serves one ; flow f sends one over m ;");
        due("behind a NET with loses", y.put(0, 9), 9);
    }
}
