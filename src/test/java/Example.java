import java.nio.ByteBuffer;
import java.nio.charset.StandardCharsets;

/** How DelayBounds is used: README.md shows this file, and what it prints. */
public final class Example {
    private static final String NET = "curve burst is 0 3 again 1 adds 1 ; curve rate is 0 0 2 again 1 adds 2 ; "
        + "curve slow is 0 1 again 2 adds 1 ; curve fast is 0 again 1 adds 4 ; "
        + "node m fifo serves rate ; node n blind serves fast ; "
        + "flow p sends burst over m n ; flow q sends slow over n ; loses 5 < queue ;";

    /** 24 signs a call; the bytes of 0 behind the text's end are no signs and are left out. */
    private static void feed(DelayBounds x, String text) {
        ByteBuffer bytes = ByteBuffer.allocate(text.length() + 24);
        bytes.put(text.getBytes(StandardCharsets.ISO_8859_1)).rewind();
        while (bytes.position() < text.length()) {
            x.feed(bytes.getLong(), bytes.getLong(), bytes.getLong());
        }
    }

    public static void main(String[] args) {
        DelayBounds x = new DelayBounds();
        feed(x, "curve burst is 3 2 ;");
        int fault = x.net();
        System.out.println("fault " + fault % 16 + " at sign " + fault / 16);
        feed(x, NET);
        System.out.println("fault " + x.net());
        System.out.println("p is late by " + x.total(0) + " at most, with its bursts paid once by " + x.once(0));
        System.out.println("in node n curve " + x.tune(1, 0) + " serves it best");

        System.out.println("put: " + x.put(0, 3));
        System.out.println("gone: " + x.tick() + " " + x.tick() + " " + x.tick() + " " + x.tick());
        System.out.println("keeps to its curve: " + x.fits(0) + ", as promised: " + x.holds(0)
            + ", latest by " + x.latest(0));

        feed(x, "put p 9 ; tick ; tick ; tick ; tick ;");
        System.out.println("fault " + x.run());
        System.out.println("told run: gone " + x.judged(1) + ", latest by " + x.judged(2) + ", there " + x.judged(3));

        try {
            x.unfold(0, 1, 61);
        } catch (java.util.NoSuchElementException e) {
            System.out.println("no unfold at 61");
        }
    }
}
