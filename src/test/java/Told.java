/** What the tests share: texts put on the TAPE, and answers held against those that are due. */
final class Told {
    private int wrong = 0;
    private int looked = 0;

    /** Feeds a text in pieces of up to 24 signs; answers what the last feed answered. */
    static int feed(DelayBounds x, String text) {
        int answer = x.feed(0, 0, 0);
        for (int at = 0; at < text.length(); at += 24) {
            answer = x.feed(eight(text, at), eight(text, at + 8), eight(text, at + 16));
        }
        return answer;
    }

    static long eight(String text, int from) {
        long bytes = 0;
        for (int i = from; i < from + 8; i++) {
            bytes = bytes << 8 | (i < text.length() ? text.charAt(i) & 255 : 0);
        }
        return bytes;
    }

    static int net(DelayBounds x, String text) {
        feed(x, text);
        return x.net();
    }

    static int run(DelayBounds x, String text) {
        feed(x, text);
        return x.run();
    }

    /** A new object with a NET that must be without a FAULT. */
    static DelayBounds of(String text) {
        DelayBounds x = new DelayBounds();
        int fault = net(x, text);
        if (fault != 0) {
            throw new IllegalStateException("fault " + fault + " in: " + text);
        }
        return x;
    }

    void due(String what, long got, long want) {
        looked++;
        if (got != want) {
            wrong++;
            System.out.println(what + " answered " + got + ", due is " + want);
        }
    }

    void due(String what, boolean got, boolean want) {
        due(what, got ? 1 : 0, want ? 1 : 0);
    }

    /** What a call does that may throw. */
    interface Call {
        int answer();
    }

    void dueNoSuchElement(String what, Call call) {
        looked++;
        try {
            int got = call.answer();
            wrong++;
            System.out.println(what + " answered " + got + ", due is a NoSuchElementException");
        } catch (java.util.NoSuchElementException due) {
            return;
        }
    }

    int looked() {
        return looked;
    }

    void end() {
        System.out.println(looked + " answers, " + wrong + " of them not as due");
        if (wrong != 0) {
            System.exit(1);
        }
    }
}
