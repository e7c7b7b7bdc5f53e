/** Boundary cases of the TAPE, of NETS and RUNS as they are told, and of FAULTS. */
final class EdgesOfTexts extends Edges {
    private static final String C = "curve c is 0 2 again 1 adds 3 ; ";
    private static final String N = C + "node n fair serves c ; ";
    private static final String F = N + "flow f sends c over n ; ";
    private static final String FOUR_NODES = C + "node a blind serves c;node b first serves c;"
        + "node d fifo serves c;node e fair serves c;";
    private static final String FOUR_FLOWS = F + "flow g sends c over n;flow h sends c over n;flow i sends c over n;";
    private static final String[] NO_NAMES = {"curve", "is", "again", "adds", "node", "serves", "flow", "sends", "over",
        "loses", "tick", "put", "blind", "first", "fifo", "fair", "not", "and", "or"};

    private static String manyCurves(int many) {
        StringBuilder all = new StringBuilder();
        for (int i = 0; i < many; i++) {
            all.append("curve ").append((char) ('a' + i)).append(" is ").append(i).append(" again 1 adds 1;");
        }
        return all.toString();
    }

    /** Each token of a line in its turn gives way to one that can't stand there, and to the end of the text. */
    private static void eachToken(String ahead, String line, String other, boolean isRun) {
        String[] tokens = line.split(" ");
        String text = isRun ? "" : ahead;
        for (int i = 0; i < tokens.length; i++) {
            String rest = String.join(" ", java.util.Arrays.copyOfRange(tokens, i + 1, tokens.length));
            tell(isRun, ahead, 1, text + "`" + other + " " + rest);
            tell(isRun, ahead, i == 0 ? 0 : 1, i == 0 ? text : text + "`");
            text = text + tokens[i] + " ";
        }
        tell(isRun, ahead, 0, text);
    }

    private static void tell(boolean isRun, String ahead, int kind, String text) {
        if (isRun) {
            run(kind, ahead, text);
        } else {
            net(kind, text);
        }
    }

    // ---- the TAPE ----

    static void tapeOf1000Signs() {
        term("The TAPE has at most 1,000 signs,");
        DelayBounds x = new DelayBounds();
        due("feed of 999", Told.feed(x, times(" ", 999)), 999);
        due("feed of the 1,000th", Told.feed(x, " "), 1000);
        due("feed of a 1,001st", Told.feed(x, " "), 1000);
        due("signs", x.count(9), 1000);
        net(0, times(" ", 992) + "loses 1;");
        net(1, times(" ", 993) + "loses 1`;");
        DelayBounds y = new DelayBounds();
        due("feed of 990", Told.feed(y, times(" ", 990)), 990);
        due("feed of 24 where 10 find room", Told.feed(y, "loses 1;  curve c is 0 ag"), 1000);
        due("the first 10 of them are there", y.net(), 0);
    }

    static void signsOfTheTape() {
        term("10 and 32 .. 126;");
        for (int sign = 0; sign < 256; sign++) {
            boolean isSign = sign == 10 || sign >= 32 && sign <= 126;
            DelayBounds x = new DelayBounds();
            due("feed of " + sign + " first", x.feed((long) sign << 56, 0, 0), isSign ? 1 : 0);
            due("feed of " + sign + " last", x.feed(0, 0, sign), isSign ? 2 : 0);
        }
    }

    static void whatReadsTakesTheTape() {
        term("what reads it takes it: it is empty then.");
        DelayBounds x = new DelayBounds();
        Told.net(x, F);
        due("signs behind a NET", x.count(9), 0);
        Told.net(x, "curve c");
        due("signs behind a NET with a FAULT", x.count(9), 0);
        Told.run(x, "tick;");
        due("signs behind a RUN", x.count(9), 0);
        Told.run(x, "put");
        due("signs behind a RUN with a FAULT", x.count(9), 0);
        due("feed begins anew", Told.feed(x, "abc"), 3);
    }

    static void feedUpTo24Signs() {
        promise(2, "Up to 24 signs come behind the TAPE:");
        DelayBounds x = new DelayBounds();
        due("none", x.feed(0, 0, 0), 0);
        due("24", x.feed(0x2020202020202020L, 0x2020202020202020L, 0x2020202020202020L), 24);
        due("1 more", x.feed(0, 0x20, 0), 25);
    }

    static void feedHighestFirst() {
        promise(2, "the bytes of a, b, c, of each the highest first;");
        DelayBounds x = new DelayBounds();
        // l o s e s blank 1 ; by its bytes, then one that can't stand there as the lowest of b, one as the highest of c
        x.feed(0x6c6f73657320313bL, 0, 0);
        due("net", x.net(), 0);
        x.feed(0x6c6f73657320313bL, 0x2020202020202041L, 0x4200000000000000L);
        due("the lowest byte of b is the 16th sign", x.net(), 1 + 16 * 15);
        x.feed(0x6c6f73657320313bL, 0x2020202020202020L, 0x4200000000000000L);
        due("the highest byte of c is the 17th sign", x.net(), 1 + 16 * 16);
        x.feed(0x3b31207365736f6cL, 0, 0);
        due("the lowest first would be no NET", x.net(), 1);
    }

    static void feedLeavesOut() {
        promise(2, "others than 10 and 32 .. 126, and what is beyond 1,000, are left out:");
        DelayBounds x = new DelayBounds();
        due("others", x.feed(0x090b1f7f80ff0001L, 0x8a8aa0a0fefe0d0cL, -1L), 0);
        due("others between", x.feed(0x006c096f0b731f65L, 0x7f738020ff310d3bL, 0), 8);
        due("they part nothing", x.net(), 0);
        Told.feed(x, times(" ", 999));
        due("two where one finds room", x.feed(0x3b3b000000000000L, 0, 0), 1000);
        due("the first of them is there", x.net(), 1 + 16 * 999);
    }

    static void feedTellsHowManyThereAre() {
        promise(2, "how many there are.");
        DelayBounds x = new DelayBounds();
        due("none", x.feed(0, 0, 0), 0);
        due("all that are there, not those of the call", Told.feed(x, times(" ", 30)), 30);
        due("no more of a call without signs", x.feed(0, 0, 0), 30);
        due("count tells the same", x.count(9), 30);
        Told.feed(x, times(" ", 970));
        due("full", x.feed(0x2020202020202020L, 0, 0), 1000);
    }

    // ---- tokens ----

    static void tokensAsLongAsCanBe() {
        term("TOKENS, each as long as can be,");
        net(1, "`curvec is 0 again 1 adds 1 ;");
        net(1, "curve ccis `0 again 1 adds 1 ;");
        net(1, "curve c `isagain 0 again 1 adds 1 ;");
        net(1, "loses 1 `andor 1 ;");
        due("a NUMBER of two digits", Told.of("curve c is 12 again 1 adds 1 ;").value(0, 0), 12);
        due("is one VALUE", Told.of("curve c is 12 again 1 adds 1 ;").curve(0, 0), 1);
    }

    static void blanksWhereOneLikes() {
        term("blanks (10, 32) between where one likes:");
        net(0, "");
        net(0, " ");
        net(0, "\n");
        net(0, " \n \n\n  ");
        net(0, "\n curve\nc  is\n\n0\nagain 1 adds\n1\n;\n");
        net(0, "curve c is 0again 1adds 1;node n fair serves c;flow f sends c over n;loses(1+2)*3<4-5;");
        run(0, F, "tick;put f 1;tick;");
        run(0, F, "\n\ntick\n;\n put\nf\n9 ; \n");
    }

    static void wordsOf8Letters() {
        term("WORDS (letters a .. z, 8 at most),");
        for (String name : new String[] {"a", "z", "az", "abcdefg", "abcdefgh", "zzzzzzzz"}) {
            net(0, "curve " + name + " is 0 again 1 adds 1 ; node n fair serves " + name + " ;");
        }
        net(1, "curve `abcdefghi is 0 again 1 adds 1 ;");
        net(1, "curve `" + times("a", 100) + " is 0 again 1 adds 1 ;");
        // the neighbours of a and z, and of A and Z
        for (char c : new char[] {'{', '@', 'A', 'Z', '[', '_'}) {
            net(1, "curve `" + c + " is 0 again 1 adds 1 ;");
        }
        DelayBounds x = new DelayBounds();
        due("the sign ahead of a", Told.net(x, "curve ` is 0 again 1 adds 1 ;"), 1 + 16 * 6);
        net(0, "curve abcdefgh is 0 again 1 adds 1 ; curve abcdefgi is 0 again 1 adds 1 ; "
            + "curve bbcdefgh is 0 again 1 adds 1 ; curve abcdefg is 0 again 1 adds 1 ;");
    }

    static void numbersOf4Digits() {
        term("NUMBERS (1 to 4 digits; a letter may stand right behind),");
        net(0, "loses 0;");
        net(0, "loses 9;");
        net(0, "loses 9999;");
        net(0, "loses 0000;");
        net(1, "loses `10000;");
        net(1, "loses `00000;");
        net(1, "loses `" + times("9", 30) + ";");
        net(0, "curve c is 0007 0099again 0002adds 0092;");
        net(0, "loses 1and 2or 3;");
        net(1, "loses 1`a;");
        // the neighbours of 0 and 9
        net(1, "loses 1`/;");
        net(1, "loses 1`:;");
    }

    static void theSigns() {
        term("the signs ( ) < = + - * ;");
        net(0, "loses ( 1 + 2 - 3 * 4 ) < 5 and 6 = 7 ;");
        net(0, "loses(1+2-3*4)<5and 6=7;");
        for (String sign : "<,=,+,-,*".split(",")) {
            net(0, "loses 1" + sign + "1;");
            net(1, "loses 1" + sign + "`" + sign + "1;");
        }
    }

    static void allElseIsNone() {
        term("All else (a longer WORD or NUMBER, too, at its first sign) is none.");
        for (char sign = 33; sign <= 126; sign++) {
            boolean isElse = (sign < 'a' || sign > 'z') && (sign < '0' || sign > '9') && "()<=+-*;".indexOf(sign) < 0;
            if (isElse) {
                due("a NET that begins with " + sign, Told.net(new DelayBounds(), sign + " ;"), 1);
                due("a " + sign + " where a sign may stand", Told.net(new DelayBounds(), "loses 1 " + sign + " 1 ;"),
                    1 + 16 * 8);
            }
        }
        net(1, "loses `timetimet;");
        net(1, "`losesloses 1;");
        net(1, "loses 1 + `12345;");
        net(1, "curve c is 0 `10000 again 1 adds 1 ;");
        net(1, "curve c is 0 again `00001 adds 1 ;");
        run(1, F, "put f `00001;");
        run(1, F, "put `abcdefghi 1;");
        run(1, F, "tick`_;");
    }

    // ---- NETS ----

    static void netOfAnyNumberOfLines() {
        term("NET: any number of");
        DelayBounds x = Told.of(F);
        due("an empty NET", x.net(), 0);
        due("no CURVES", x.count(0), 0);
        due("no NODES", x.count(1), 0);
        due("no FLOWS", x.count(2), 0);
        net(0, C);
        net(0, "loses 1;" + C + "curve d is 0 again 1 adds 1;" + "node n fair serves d;curve e is 0 again 1 adds 1;"
            + "flow f sends e over n;node m fifo serves c;flow g sends d over m n;");
        net(1, C + "`;");
        net(1, C + "`c");
        net(1, "`is");
        net(1, "`tick;");
        net(1, "`put");
        net(1, "`7");
    }

    static void curveLine() {
        term("curve NAME is N N .. again N adds N ;");
        eachToken(C, "curve d is 0 2 5 again 2 adds 3 ;", "<", false);
        net(1, "curve d `isn 0 again 1 adds 1 ;");
    }

    static void nodeLine() {
        term("node NAME KIND serves NAME ;");
        eachToken(C, "node m blind serves c ;", "<", false);
        eachToken(C, "node m fifo serves c ;", "7", false);
    }

    static void flowLine() {
        term("flow NAME sends NAME over NAME NAME .. ;");
        eachToken(FOUR_NODES, "flow g sends c over a b ;", "<", false);
        eachToken(FOUR_NODES, "flow g sends c over d ;", "7", false);
    }

    static void losesLine() {
        term("loses E ;");
        eachToken(C, "loses 1 + ( 2 - here ) * 3 < not 4 and 5 or 6 ;", "is", false);
        eachToken(C, "loses 1 = 2 ;", "c", false);
    }

    static void sixCurves() {
        term("curve: 6 at most, numbered as told;");
        net(0, manyCurves(5));
        net(0, manyCurves(6));
        net(5, manyCurves(6) + "`curve g is 0 again 1 adds 1;");
        DelayBounds x = Told.of(manyCurves(6));
        for (int i = 0; i < 6; i++) {
            due("value of " + i, x.value(i, 0), i);
        }
        due("CURVES", x.count(0), 6);
    }

    static void oneTo8Values() {
        term("1 to 8 VALUES,");
        net(1, "curve c is `again 1 adds 1 ;");
        net(0, "curve c is 5 again 1 adds 1 ;");
        net(0, "curve c is 1 2 3 4 5 6 7 8 again 1 adds 1 ;");
        net(5, "curve c is 1 2 3 4 5 6 7 8 `9 again 1 adds 1 ;");
        DelayBounds x = Told.of("curve c is 5 again 1 adds 1 ; curve d is 1 2 3 4 5 6 7 9 again 1 adds 1 ;");
        due("one", x.curve(0, 0), 1);
        due("eight", x.curve(1, 0), 8);
        due("the eighth", x.value(1, 7), 9);
    }

    static void values0To99() {
        term("0 to 99, each no less than the one ahead;");
        net(0, "curve c is 0 99 again 1 adds 0 ;");
        net(4, "curve c is `100 again 1 adds 0 ;");
        net(4, "curve c is 0 `100 again 1 adds 0 ;");
        net(4, "curve c is 0 `9999 again 1 adds 0 ;");
        net(0, "curve c is 5 5 again 1 adds 0 ;");
        net(4, "curve c is 5 `4 again 1 adds 0 ;");
        net(4, "curve c is 99 `0 again 1 adds 0 ;");
        net(4, "curve c is 1 2 3 4 5 6 7 `6 again 1 adds 0 ;");
        // the one ahead, not an earlier one
        net(4, "curve c is 1 3 `2 again 1 adds 0 ;");
    }

    static void again1ToAsManyAsTheseAre() {
        term("again: 1 to as many as these are;");
        net(4, "curve c is 1 2 3 again `0 adds 9 ;");
        net(0, "curve c is 1 2 3 again 1 adds 9 ;");
        net(0, "curve c is 1 2 3 again 3 adds 9 ;");
        net(4, "curve c is 1 2 3 again `4 adds 9 ;");
        net(4, "curve c is 1 again `2 adds 9 ;");
        net(0, "curve c is 1 2 3 4 5 6 7 8 again 8 adds 9 ;");
        net(4, "curve c is 1 2 3 4 5 6 7 8 again `9 adds 9 ;");
        net(4, "curve c is 1 2 3 again `9999 adds 9 ;");
    }

    static void adds0To99() {
        term("adds 0 to 99,");
        net(0, "curve c is 7 again 1 adds 0 ;");
        net(0, "curve c is 7 again 1 adds 99 ;");
        net(4, "curve c is 7 again 1 adds `100 ;");
        net(4, "curve c is 7 again 1 adds `9999 ;");
    }

    static void addsNoLessThanThat() {
        term("no less than the last VALUE less the one that is as far from the end as again tells (1: the last one).");
        net(0, "curve c is 1 5 9 again 1 adds 0 ;");
        net(4, "curve c is 1 5 9 again 2 adds `3 ;");
        net(0, "curve c is 1 5 9 again 2 adds 4 ;");
        net(4, "curve c is 1 5 9 again 3 adds `7 ;");
        net(0, "curve c is 1 5 9 again 3 adds 8 ;");
        net(4, "curve c is 0 1 1 1 1 1 1 99 again 8 adds `98 ;");
        net(0, "curve c is 0 1 1 1 1 1 1 99 again 8 adds 99 ;");
        net(4, "curve c is 0 1 1 1 1 1 1 99 again 7 adds `97 ;");
        net(0, "curve c is 0 1 1 1 1 1 1 99 again 7 adds 98 ;");
    }

    static void fourNodes() {
        term("node: 4 at most;");
        net(0, FOUR_NODES);
        due("NODES", Told.of(FOUR_NODES).count(1), 4);
        net(5, FOUR_NODES + "`node g fair serves c;");
        for (int node = 0; node < 4; node++) {
            due("they are numbered as told", Told.of(FOUR_NODES).node(node, 0), node);
        }
    }

    static void fourKinds() {
        term("KIND: blind, first, fifo, fair;");
        String[] kinds = {"blind", "first", "fifo", "fair"};
        for (int kind = 0; kind < 4; kind++) {
            due(kinds[kind], Told.of(C + "node n " + kinds[kind] + " serves c ;").node(0, 0), kind);
        }
        for (String other : new String[] {"lifo", "blin", "blinds", "fifos", "tick", "not", "c", "serves", "0"}) {
            net(1, C + "node n `" + other + " serves c ;");
        }
    }

    static void nodeServesACurveTold() {
        term("serves a CURVE told.");
        net(2, "node n fair serves `c ; " + C);
        net(2, C + "node n fair serves `d ;");
        net(2, N + "node m fair serves `n ;");
        net(2, N + "node m fair serves `m ;");
        net(2, F + "node m fair serves `f ;");
        due("the last of six", Told.of(manyCurves(6) + "node n fair serves f;").node(0, 1), 5);
        due("the first of six", Told.of(manyCurves(6) + "node n fair serves a;").node(0, 1), 0);
    }

    static void fourFlows() {
        term("flow: 4 at most;");
        net(0, FOUR_FLOWS);
        due("FLOWS", Told.of(FOUR_FLOWS).count(2), 4);
        net(5, FOUR_FLOWS + "`flow j sends c over n;");
    }

    static void flowSendsACurveTold() {
        term("sends a CURVE told;");
        net(2, N + "flow f sends `d over n ; curve d is 0 again 1 adds 1 ;");
        net(2, N + "flow f sends `n over n ;");
        net(2, N + "flow f sends `f over n ;");
        net(2, F + "flow g sends `f over n ;");
        due("the last of six", Told.of(manyCurves(6) + "node n fair serves a;flow x sends f over n;").flow(0, 0), 5);
    }

    static void over1To4Nodes() {
        term("over 1 to 4 NODES told, none twice.");
        net(1, FOUR_NODES + "flow f sends c over `;");
        net(0, FOUR_NODES + "flow f sends c over e;");
        net(0, FOUR_NODES + "flow f sends c over e d b a;");
        due("four", Told.of(FOUR_NODES + "flow f sends c over e d b a;").flow(0, 1), 4);
        net(3, FOUR_NODES + "flow f sends c over e d b a `e;");
        net(3, FOUR_NODES + "flow f sends c over e d b a `a;");
        net(2, FOUR_NODES + "flow f sends c over e d b a `g;");
        net(3, FOUR_NODES + "flow f sends c over a `a;");
        net(3, FOUR_NODES + "flow f sends c over a b `a;");
        net(2, N + "flow f sends c over n `m; node m fair serves c;");
        net(2, N + "flow f sends c over `c;");
        net(2, N + "flow f sends c over `f;");
        net(2, F + "flow g sends c over n `f;");
        // twice on one way; another FLOW may go over it
        net(0, F + "flow g sends c over n;");
    }

    static void losesOnce() {
        term("loses: once.");
        net(0, "loses 1;");
        net(3, "loses 1; `loses 1;");
        net(3, "loses 0; " + F + "`loses 0;");
        DelayBounds x = Told.of("loses 1;");
        due("the next NET may have its own", Told.net(x, "loses 1;"), 0);
    }

    // ---- RUNS ----

    static void runOfAnyNumberOfLines() {
        term("RUN: any number of tick ; put NAME N ;");
        DelayBounds x = Told.of(F);
        Told.run(x, "tick;");
        due("an empty RUN", x.run(), 0);
        due("no lines", x.count(7), 0);
        run(0, F, "tick;");
        run(1, F, "`;");
        run(1, F, "tick;`;");
        run(1, F, "`curve");
        run(1, F, "`f");
        eachToken(F, "tick ;", "<", true);
        eachToken(F, "put f 1 ;", "<", true);
    }

    static void put1To9OfAFlow() {
        term("(of a FLOW 1 to 9),");
        run(4, F, "put f `0;");
        run(0, F, "put f 1;");
        run(0, F, "put f 9;");
        run(4, F, "put f `10;");
        run(4, F, "put f `9999;");
        run(2, F, "put `c 1;");
        run(2, F, "put `n 1;");
        run(2, F, "put `g 1;");
        run(0, FOUR_FLOWS, "put i 1;");
    }

    static void run40Lines() {
        term("40 lines at most.");
        DelayBounds x = Told.of(F);
        due("40", Told.run(x, times("tick;", 39) + "put f 1;"), 0);
        due("lines", x.count(7), 40);
        due("41", Told.run(x, times("tick;", 41)), 5 + 16 * 200);
        due("the RUN of 40 stays", x.count(7), 40);
        run(0, F, times("put f 9;", 40));
    }

    static void namesAreOtherWords() {
        term("A NAME is another WORD than curve, is, again, adds, node, serves, flow, sends, over, loses, tick, put, "
            + "the KINDS, not, and, or;");
        for (String word : NO_NAMES) {
            net(1, "curve `" + word + " is 0 again 1 adds 1 ;");
            net(1, C + "node `" + word + " fair serves c ;");
            net(1, C + "node n fair serves `" + word + " ;");
            net(1, N + "flow `" + word + " sends c over n ;");
            net(1, N + "flow f sends `" + word + " over n ;");
            net(1, N + "flow f sends c over `" + word + " ;");
            run(1, F, "put `" + word + " 1 ;");
            String longer = word.length() < 8 ? word + "s" : word;
            net(0, "curve " + longer + " is 0 again 1 adds 1 ;");
        }
        for (String fact : new String[] {"queue", "here", "which", "time"}) {
            net(0, "curve " + fact + " is 0 again 1 adds 1 ; node n fair serves " + fact + " ;");
            run(0, N + "flow " + fact + " sends c over n ;", "put " + fact + " 1 ;");
        }
    }

    static void noTwoNamesAlike() {
        term("no two (CURVES, NODES, FLOWS) are alike.");
        for (String name : new String[] {"c", "n", "f"}) {
            net(3, F + "curve `" + name + " is 0 again 1 adds 1 ;");
            net(3, F + "node `" + name + " fair serves c ;");
            net(3, F + "flow `" + name + " sends c over n ;");
        }
        net(0, F + "curve cc is 0 again 1 adds 1 ; node nn fair serves c ; flow ff sends c over n ;");
        net(0, "curve a is 0 again 1 adds 1 ; curve aa is 0 again 1 adds 1 ; curve ab is 0 again 1 adds 1 ; "
            + "curve b is 0 again 1 adds 1 ; curve ba is 0 again 1 adds 1 ; curve aaaaaaaa is 0 again 1 adds 1 ;");
        // the NAMES of a NET that was told ahead are free
        DelayBounds x = Told.of(F);
        due("the same NAMES in the next NET", Told.net(x, F), 0);
        due("and otherwise", Told.net(x, "curve f is 0 again 1 adds 1 ; node c fair serves f ; flow n sends f over c ;"), 0);
        // and so are those of a text with a FAULT
        due("a FAULT", Told.net(x, "curve late is 0 again 1 adds 1 ; curve"), 1 + 16 * 38);
        due("its NAME is free", Told.net(x, "curve late is 0 again 1 adds 1 ;"), 0);
    }

    // ---- FAULTS ----

    static void faultsByPlace() {
        term("FAULTS, kind + 16 * the place (from 0) of a token,");
        net(1, "`x");
        net(1, " `x");
        net(4, "curve c is `100");
        due("the last sign of all", Told.net(new DelayBounds(), times(" ", 999) + "~"), 1 + 16 * 999);
        due("the first sign of its token", Told.net(new DelayBounds(), "loses tick"), 1 + 16 * 6);
    }

    static void endAtTheTextsLength() {
        term("the end being one at the text's length:");
        net(1, "curve`");
        net(1, "curve   \n `");
        net(1, "loses 1`");
        run(1, F, "tick`");
        run(1, F, "tick  `");
        due("at 1,000", Told.net(new DelayBounds(), times(" ", 995) + "curve"), 1 + 16 * 1000);
    }

    static void firstWrongToken() {
        term("of the first token from the left that is wrong");
        net(4, "curve c is `100 again 0 adds 100");
        net(4, "curve c is 5 `4 ~");
        net(5, manyCurves(6) + "`curve curve");
        net(2, "node n fair serves `c c");
        net(3, "loses 1; `loses ~");
        run(2, F, "put `g 0;");
        run(4, F, "put f `0 1");
        // tokens that are wrong stay behind the first wrong one
        net(1, "loses `; loses 1; loses 1;");
    }

    static void theLeastFault() {
        term("the least:");
        net(4, "curve c is 1 1 1 1 1 1 1 1 `100 again 1 adds 1 ;");
        net(4, "curve c is 1 1 1 1 1 1 1 1 `0 again 1 adds 1 ;");
        net(5, "curve c is 1 1 1 1 1 1 1 1 `1 again 1 adds 1 ;");
        net(1, "curve c is 1 1 1 1 1 1 1 1 `11111 again 1 adds 1 ;");
        net(1, "loses (((((`;");
        net(1, "loses (((((`)");
        net(1, "loses not not not not not `and");
        net(1, "loses (((((`");
        run(1, F, times("tick;", 40) + "`f");
        run(1, F, times("tick;", 40) + "`;");
    }

    static void fault1() {
        term("1 it is none, or can't stand there;");
        net(1, "curve `# is 0 again 1 adds 1 ;");
        net(1, "curve `abcdefghi is 0 again 1 adds 1 ;");
        net(1, "curve `( is 0 again 1 adds 1 ;");
        net(1, "curve `9 is 0 again 1 adds 1 ;");
        net(1, "curve c `c is 0 again 1 adds 1 ;");
        net(1, "curve c is `c again 1 adds 1 ;");
        net(1, "curve c is 0 again 1 `1 adds 1 ;");
        net(1, "curve c is 0 again 1 adds 1 `1 ;");
        run(1, F, "tick `1;");
        run(1, F, "put f 1 `1;");
    }

    static void fault2() {
        term("2 a NAME of no CURVE (behind serves, sends), of no NODE (behind over, another one), of no FLOW "
            + "(behind put) told;");
        net(2, F + "node m fair serves `n ;");
        net(2, F + "node m fair serves `f ;");
        net(2, F + "flow g sends `n over n ;");
        net(2, F + "flow g sends `f over n ;");
        net(2, F + "flow g sends c over `c ;");
        net(2, F + "flow g sends c over `f ;");
        net(2, F + "flow g sends c over `g ;");
        net(2, F + "flow g sends c over n `c ;");
        net(2, F + "flow g sends c over n `x ;");
        run(2, F, "put `c 1 ;");
        run(2, F, "put `n 1 ;");
        run(2, F, "put `x 1 ;");
        // told in the NET ahead, but not in this one
        DelayBounds x = Told.of(F);
        due("a CURVE of the NET ahead", Told.net(x, "node n fair serves c ;"), 2 + 16 * 19);
        due("a FLOW of the NET that stays", Told.run(x, "put f 1 ;"), 0);
        Told.net(x, N);
        due("a FLOW of the NET ahead", Told.run(x, "put f 1 ;"), 2 + 16 * 4);
    }

    static void fault3() {
        term("3 a NAME told already; a NODE of one way a second time; loses a second time;");
        net(3, C + "curve `c is 0 again 1 adds 1 ;");
        net(3, C + "curve `c");
        net(3, N + "node `n fair serves c ;");
        net(3, F + "flow `f sends c over n ;");
        net(3, N + "flow f sends c over n `n ;");
        net(3, "loses 1 ; `loses");
        // no NAME is told by a FAULT's line, and none is before its line is
        net(2, C + "node n fair serves `n ;");
    }

    static void fault4() {
        term("4 a NUMBER that is not as told;");
        net(4, "curve c is `100");
        net(4, "curve c is 9 `8");
        net(4, "curve c is 9 again `0");
        net(4, "curve c is 9 again `2");
        net(4, "curve c is 7 9 again 2 adds `1");
        net(4, "curve c is 7 9 again 2 adds `100");
        run(4, F, "put f `0");
        run(4, F, "put f `10");
        // in E each NUMBER is as told
        net(0, "loses 0 + 9999;");
    }

    static void fault5() {
        term("5 one too many: the words curve of a seventh, node of a fifth, flow of a fifth, a ninth VALUE, "
            + "the first word of a 41st line of a RUN;");
        net(5, manyCurves(6) + "`curve");
        net(5, FOUR_NODES + "`node");
        net(5, FOUR_FLOWS + "`flow");
        net(5, "curve c is 1 2 3 4 5 6 7 8 `9");
        run(5, F, times("tick;", 40) + "`tick");
        run(5, F, times("tick;", 40) + "`put");
        run(1, F, times("tick;", 39) + "tick `tick");
        // one too many only of its own sort
        net(0, manyCurves(6) + "node n fair serves a;node o fair serves a;node p fair serves a;node q fair serves a;"
            + "flow w sends a over n;flow x sends a over n;flow y sends a over n;flow z sends a over n;loses 1;");
    }

    static void fault5Within5() {
        term("not, or a PART, within 5 others.");
        net(5, "loses not not not not not `1;");
        net(5, "loses not not not not not `not 1;");
        net(5, "loses not not not not not `( 1 );");
        net(5, "loses (((((`1)))));");
        net(5, "loses (((((`here)))));");
        net(5, "loses (((((`not 1)))));");
        net(5, "loses (((((`(1))))));");
        net(5, "loses not ( not ( not `time ) ) ;");
        net(5, "loses 1 + ( 2 * ( 3 < ( 4 or ( 5 - ( `6 ) ) ) ) ) ;");
    }

    static void aNetWithoutFault() {
        term("Without a FAULT a NET is the NET from then on: time 0, no UNITS, nothing GONE, LOST, LATE, no RUN, "
            + "nothing SEEN, no MARK is there.");
        String net = C + "node n fifo serves c ; flow f sends c over n ; loses queue = 4 ;";
        DelayBounds x = Told.of(net);
        Told.run(x, "put f 2; tick;");
        x.put(0, 6);
        x.tick();
        x.see(60, 999, true);
        x.mark(0, false);
        x.mark(1, false);
        int[] before = {1, 1, 1, 1, 2, 2, 2, 2, 1, 0};
        for (int what = 0; what < 10; what++) {
            due("count " + what + " ahead", x.count(what), before[what]);
        }
        due("fits ahead", x.fits(0), false);
        due("the same NET", Told.net(x, net), 0);
        int[] behind = {1, 1, 1, 0, 0, 0, 0, 0, 0, 0};
        for (int what = 0; what < 10; what++) {
            due("count " + what + " behind it", x.count(what), behind[what]);
        }
        due("UNITS at n", x.node(0, 3), 0);
        due("BUSY", x.node(0, 4), 0);
        due("UNITS of f", x.flow(0, 2), 0);
        due("GONE of f", x.flow(0, 3), 0);
        due("LOST of f", x.flow(0, 4), 0);
        due("latest", x.latest(0), NONE);
        due("oldest", x.oldest(0), NONE);
        due("fits", x.fits(0), true);
        due("who", x.who(), 1);
        due("judged", x.judged(1), 0);
        due("MARK 0", x.mark(0, true), false);
        due("MARK 1", x.mark(1, true), false);
        Told.net(x, F);
        due("the law is gone with its NET", x.put(0, 9), 9);
    }

    static void aRunIsTheRun() {
        term("A RUN is the RUN.");
        DelayBounds x = Told.of(F);
        Told.run(x, "put f 2; tick; tick;");
        due("lines", x.count(7), 3);
        due("GONE by it", x.judged(1), 2);
        x.put(0, 1);
        Told.run(x, "put f 9;");
        due("lines of the next one", x.count(7), 1);
        due("there by it", x.judged(3), 9);
        due("UNITS are as ahead", x.count(4), 1);
    }

    static void atFirstNothing() {
        term("At first: nothing.");
        DelayBounds x = new DelayBounds();
        for (int what = 0; what < 10; what++) {
            due("count " + what, x.count(what), 0);
        }
        due("RUN: a FLOW that is not told", Told.run(x, "put f 1;"), 2 + 16 * 4);
        due("MARK 0", x.mark(0, true), false);
        due("MARK 1", x.mark(1, true), false);
        due("judged", x.judged(0), NONE);
    }

    // ---- promises 3 and 4 ----

    static void netAnswers() {
        promise(3, "The TAPE is read as a NET: 0, or its FAULT");
        DelayBounds x = new DelayBounds();
        due("of an empty TAPE", x.net(), 0);
        due("of a NET", Told.net(x, F), 0);
        due("of a RUN", Told.net(x, "tick;"), 1);
        due("of no token", Told.net(x, "   ~"), 1 + 16 * 3);
        due("once more, of the empty TAPE", x.net(), 0);
        due("that is a NET of nothing", x.count(0), 0);
    }

    static void netWithAFaultStays() {
        promise(3, "(all stays then).");
        DelayBounds x = Told.of("curve c is 0 2 again 1 adds 3 ; node n fifo serves c ; flow f sends c over n ; loses queue = 4 ;");
        Told.run(x, "put f 2; tick;");
        x.put(0, 6);
        x.tick();
        x.see(1, 2, true);
        x.mark(1, false);
        String whole = "curve d is 7 again 1 adds 7 ; node m blind serves d ; flow g sends d over m ; loses 1 ;";
        for (String fault : new String[] {whole + "~", whole + "loses", whole + "curve d", whole + "node k fair serves x",
            whole + "curve e is 100", "~"}) {
            due("a FAULT", Told.net(x, fault) != 0, true);
            int[] due = {1, 1, 1, 1, 2, 2, 2, 2, 1, 0};
            for (int what = 0; what < 10; what++) {
                due("count " + what, x.count(what), due[what]);
            }
            due("the CURVE", x.value(0, 1), 2);
            due("the KIND", x.node(0, 0), 2);
            due("LATE", x.latest(0), 1);
            due("who", x.who(), 1);
            due("DELAYS", x.total(0), 0);
            due("judged", x.judged(1), 2);
            due("the MARK", x.mark(1, true), true);
        }
        due("the law", x.put(0, 9), 2);
        due("NAMES", Told.run(x, "put f 1;"), 0);
    }

    static void runAnswers() {
        promise(4, "The TAPE is read as a RUN, likewise.");
        DelayBounds x = Told.of(F);
        due("of an empty TAPE", x.run(), 0);
        due("of a RUN", Told.run(x, "put f 9;tick;"), 0);
        x.put(0, 1);
        x.mark(0, false);
        for (String fault : new String[] {F, "tick", "tick;put", "tick;put f 10", "tick;tick;tick;put g", "~"}) {
            due("a FAULT", Told.run(x, fault) != 0, true);
            due("lines stay", x.count(7), 2);
            due("GONE by it", x.judged(1), 2);
            due("there by it", x.judged(3), 7);
            due("UNITS stay", x.count(4), 1);
        }
        due("a RUN leaves MARKS", x.mark(0, true), true);
        due("a RUN leaves the TAPE empty", x.count(9), 0);
    }
}
