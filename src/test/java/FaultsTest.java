/** Promises 3 and 4: what the language of NETS and RUNS takes, and where and why it does not. */
public final class FaultsTest {
    private static final Told told = new Told();

    private static final String C = "curve c is 0 2 again 1 adds 3 ; ";
    private static final String N = C + "node n fair serves c ; ";
    private static final String F = N + "flow f sends c over n ; ";

    /** A text with a ` ahead of the token that is wrong; kind 0: there is none. */
    private static void net(int kind, String text) {
        DelayBounds x = new DelayBounds();
        told.due("net of " + text, Told.net(x, text.replace("`", "")), kind == 0 ? 0 : kind + 16 * text.indexOf('`'));
        told.due("the TAPE behind " + text, x.count(9), 0);
    }

    private static void run(int kind, String text) {
        DelayBounds x = Told.of(F + "node m fair serves c ;");
        told.due("run of " + text, Told.run(x, text.replace("`", "")), kind == 0 ? 0 : kind + 16 * text.indexOf('`'));
        told.due("the TAPE behind " + text, x.count(9), 0);
    }

    private static String times(String text, int many) {
        StringBuilder all = new StringBuilder();
        for (int i = 0; i < many; i++) {
            all.append(text);
        }
        return all.toString();
    }

    private static void tokens() {
        net(0, "");
        net(0, " \n ");
        net(0, F);
        net(0, "curve\nabcdefgh\nis 0 0again 1adds 3;node n fifo serves abcdefgh;");
        net(0, "curve c is 0001 0099 again 1 adds 0099;");
        net(0, "curve c is 1 2 3 4 5 6 7 8 again 8 adds 7;");
        net(0, "curve c is0 2again1adds3;");
        net(1, "`abcdefghi");
        net(1, "curve `abcdefghi is 0 again 1 adds 1 ;");
        net(1, "curve c is `00000 again 1 adds 1 ;");
        net(1, "curve c is 0 `12345 again 1 adds 1 ;");
        net(1, "curve `C is 0 again 1 adds 1 ;");
        net(1, "curve c is 0 `, 1 again 1 adds 1 ;");
        net(1, "curve c is `-1 again 1 adds 1 ;");
        net(1, "curve `");
        net(1, "curve   `");
        net(1, "`c");
        net(1, "`7");
        net(1, "`;");
        net(1, F + "`;");
        net(1, "`~");
    }

    private static void curves() {
        net(1, "curve `is 0 again 1 adds 1 ;");
        net(1, "curve `7 is 0 again 1 adds 1 ;");
        net(1, "curve c `0 again 1 adds 1 ;");
        net(1, "curve c is `again 1 adds 1 ;");
        net(4, "curve c is `100 again 1 adds 1 ;");
        net(4, "curve c is 3 `2 again 1 adds 1 ;");
        net(0, "curve c is 3 3 again 1 adds 1 ;");
        net(5, "curve c is 1 1 1 1 1 1 1 1 `1 again 1 adds 1 ;");
        net(4, "curve c is 1 1 1 1 1 1 1 1 `0 again 1 adds 1 ;");
        net(4, "curve c is 1 1 1 1 1 1 1 1 `100 again 1 adds 1 ;");
        net(1, "curve c is 1 1 1 1 1 1 1 1 `11111 again 1 adds 1 ;");
        net(1, "curve c is 1 `adds 1 ;");
        net(1, "curve c is 1 again `adds 1 ;");
        net(4, "curve c is 1 again `0 adds 1 ;");
        net(4, "curve c is 1 again `2 adds 1 ;");
        net(1, "curve c is 1 again 1 `1 adds 1 ;");
        net(1, "curve c is 1 again 1 adds `; ");
        net(4, "curve c is 1 again 1 adds `100 ; ");
        net(0, "curve c is 1 5 9 again 1 adds 0 ; ");
        net(4, "curve c is 1 5 9 again 2 adds `3 ; ");
        net(0, "curve c is 1 5 9 again 2 adds 4 ; ");
        net(4, "curve c is 1 5 9 again 3 adds `7 ; ");
        net(0, "curve c is 1 5 9 again 3 adds 8 ; ");
        net(1, "curve c is 1 again 1 adds 1 `curve d is 1 again 1 adds 1 ;");
        net(1, "curve c is 1 again 1 adds 1 `");
        net(3, C + "curve `c is 0 again 1 adds 1 ;");
        net(3, F + "curve `n is 0 again 1 adds 1 ;");
        net(3, F + "curve `f is 0 again 1 adds 1 ;");
        StringBuilder six = new StringBuilder();
        for (char c = 'a'; c < 'g'; c++) {
            six.append("curve " + c + " is 0 again 1 adds 1;");
        }
        net(0, six.toString());
        net(5, six + " `curve g is 0 again 1 adds 1;");
        net(5, six + " `curve");
        for (String word : Model.RESERVED) {
            net(1, "curve `" + word + " is 0 again 1 adds 1 ;");
        }
        for (String word : Model.FACTS) {
            net(0, "curve " + word + " is 0 again 1 adds 1 ; node n fifo serves " + word + ";");
        }
    }

    private static void nodes() {
        net(1, C + "node `blind serves c ;");
        net(1, C + "node n `lifo serves c ;");
        net(1, C + "node n `serves c ;");
        net(1, C + "node n blind `c ;");
        net(1, C + "node n blind serves `serves ;");
        net(1, C + "node n blind serves `5 ;");
        net(2, C + "node n blind serves `d ;");
        net(2, C + "node n blind serves `n ;");
        net(2, "node n blind serves `c ;" + C);
        net(3, C + "node `c blind serves c ;");
        net(3, N + "node `n blind serves c ;");
        net(3, F + "node `f blind serves c ;");
        net(1, C + "node n blind serves c `c ;");
        net(2, N + "node m blind serves `n ;");
        String four = C + "node a blind serves c;node b first serves c;node d fifo serves c;node e fair serves c;";
        net(0, four);
        net(5, four + "`node g fair serves c;");
        net(0, four + "flow f sends c over e d b a;");
        net(3, four + "flow f sends c over e d b a `e;");
        net(2, four + "flow f sends c over e d b a `g;");
        net(2, four + "flow f sends c over e d b a `c;");
    }

    private static void flows() {
        net(1, N + "flow `over sends c over n ;");
        net(1, N + "flow f `c over n ;");
        net(1, N + "flow f sends `over n ;");
        net(2, N + "flow f sends `n over n ;");
        net(2, N + "flow f sends `f over n ;");
        net(1, N + "flow f sends c `n ;");
        net(1, N + "flow f sends c over `; ");
        net(1, N + "flow f sends c over `3 ;");
        net(2, N + "flow f sends c over `c ;");
        net(2, N + "flow f sends c over `f ;");
        net(2, N + "flow f sends c over n `c ;");
        net(3, N + "flow f sends c over n `n ;");
        net(1, N + "flow f sends c over n `3 ;");
        net(1, N + "flow f sends c over n `");
        net(1, N + "flow f sends c over n `flow");
        net(3, N + "flow `c sends c over n ;");
        net(3, N + "flow `n sends c over n ;");
        net(3, F + "flow `f sends c over n ;");
        String four = F + "flow g sends c over n;flow h sends c over n;flow i sends c over n;";
        net(0, four);
        net(5, four + "`flow j sends c over n;");
    }

    private static void laws() {
        net(0, "loses 0;");
        net(0, "loses 1 and 2 or 3 < 4 and 5 = 6 or 7 + 8 - 9 * 10 < not ( queue ) ;");
        net(0, "loses 9999 < here + which - time * queue;");
        net(1, "loses `;");
        net(1, "loses `");
        net(1, "loses `tick;");
        net(1, "loses `c;");
        net(1, "loses `-1;");
        net(1, "loses `10000;");
        net(1, "loses 1 `2;");
        net(1, "loses 1 `not 2;");
        net(1, "loses 1 + `;");
        net(1, "loses 1 `)");
        net(1, "loses ( 1 `;");
        net(1, "loses ( `) ;");
        net(1, "loses 1 and `and 1;");
        net(1, "loses 1 < 2 `< 3;");
        net(1, "loses 1 = 2 `< 3;");
        net(1, "loses 1 < 2 `= 3;");
        net(0, "loses (1 < 2) < 3;");
        net(1, "loses not `< 3;");
        net(1, "loses 1 + `< 3 4;");
        net(1, "loses 1 and `+ 2 2;");
        net(1, "loses not `* 2 2;");
        net(0, "loses ((((1))));");
        net(5, "loses (((((`1)))));");
        net(5, "loses (((((`queue)))));");
        net(5, "loses (((((`(1))))));");
        net(5, "loses (((((`not 1)))));");
        net(1, "loses (((((`;");
        net(1, "loses (((((`tick");
        net(1, "loses (((((`12345");
        net(0, "loses not not not not 1;");
        net(5, "loses not not not not not `1;");
        net(5, "loses not not not not not `not 1;");
        net(5, "loses not ( not ( not `1 ) );");
        net(0, "loses not ( not ( 1 ) ) + not ( not ( 1 ) );");
        net(3, "loses 1; `loses 2;");
        net(3, "loses 1; " + C + "`loses");
        net(1, "loses 1 `loses");
        net(0, "loses " + times("1+", 495) + "1;");
        // a sign that finds no room is left out: here the last one, the ;
        net(1, "loses " + times("1+", 496) + "11`;");
    }

    private static void runs() {
        run(0, "");
        run(0, "tick;put f 1;put f 9;tick;");
        run(1, "`net");
        run(1, "`f");
        run(1, "`curve c is 0 again 1 adds 1 ;");
        run(1, "tick `tick;");
        run(1, "tick`");
        run(1, "put `;");
        run(1, "put `tick 1;");
        run(1, "put `5;");
        run(2, "put `g 1;");
        run(2, "put `c 1;");
        run(2, "put `n 1;");
        run(2, "put `queue 1;");
        run(1, "put f `;");
        run(1, "put f `f;");
        run(4, "put f `0;");
        run(4, "put f `10;");
        run(0, "put f 0009;");
        run(1, "put f `00009;");
        run(1, "put f 1 `1;");
        run(1, "put f 1`");
        run(0, times("tick;", 40));
        run(5, times("tick;", 40) + "`tick;");
        run(5, times("tick;", 40) + "`put");
        run(1, times("tick;", 40) + "`f");
        run(1, times("tick;", 39) + "tick`");
    }

    /** What stays when a text has a FAULT, and what a NET without one clears. */
    private static void whatStays() {
        DelayBounds x = Told.of(F);
        told.due("run", Told.run(x, "put f 2; tick;"), 0);
        told.due("put", x.put(0, 5), 5);
        told.due("tick", x.tick(), 2);
        told.due("see", x.see(1, 2, true), true);
        told.due("mark", x.mark(1, false), true);
        told.due("a NET with a FAULT", Told.net(x, C + C), 3 + 16 * (C.length() + 6));
        told.due("a RUN with a FAULT", Told.run(x, "tick; put"), 1 + 16 * 9);
        int[] before = {1, 1, 1, 1, 3, 2, 0, 2, 1, 0};
        for (int what = 0; what < before.length; what++) {
            told.due("count " + what + " behind FAULTS", x.count(what), before[what]);
        }
        told.due("latest behind FAULTS", x.latest(0), 1);
        told.due("judged behind FAULTS", x.judged(1), 2);
        told.due("mark back behind FAULTS", x.mark(1, true), true);
        told.due("a RUN without FAULT", Told.run(x, "tick;"), 0);
        told.due("lines", x.count(7), 1);
        told.due("time behind a RUN", x.count(3), 1);
        told.due("mark back behind a RUN", x.mark(1, true), true);
        told.due("the same NET", Told.net(x, F), 0);
        int[] after = {1, 1, 1, 0, 0, 0, 0, 0, 0, 0};
        for (int what = 0; what < after.length; what++) {
            told.due("count " + what + " behind a NET", x.count(what), after[what]);
        }
        told.due("latest behind a NET", x.latest(0), -1);
        told.due("fits behind a NET", x.fits(0), true);
        told.due("who behind a NET", x.who(), 1);
        told.due("busy behind a NET", x.node(0, 4), 0);
        told.due("mark back behind a NET", x.mark(1, true), false);
        told.due("an empty NET", x.net(), 0);
        told.due("CURVES of it", x.count(0), 0);
    }

    public static void main(String[] args) {
        tokens();
        curves();
        nodes();
        flows();
        laws();
        runs();
        whatStays();
        told.end();
    }
}
