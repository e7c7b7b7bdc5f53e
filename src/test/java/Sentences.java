import java.io.IOException;
import java.io.UncheckedIOException;
import java.nio.file.Files;
import java.nio.file.Path;
import java.util.ArrayList;
import java.util.List;
import java.util.regex.Matcher;
import java.util.regex.Pattern;

/** The document's sentences: which of them a test says that it looks at, and which none does. */
final class Sentences {
    /** What is no sentence: headings, how a call is written, fences, the numbers of the parts. */
    private static final String[] FRAME = {"## Terms", "## Promise \\d+: [^`]*", "```text|```", "==== \\d\\.",
        "(?<=[^`])`[^`]+`(?=[^`])"};

    private final String text;
    private final boolean[] said;
    private final boolean isThere;

    /** Without the document at hand its sentences are not looked up; what the tests ask for is the same. */
    Sentences(Path document) {
        isThere = Files.isReadable(document);
        if (!isThere) {
            System.out.println("no document at " + document + ": its sentences are not looked up");
        }
        try {
            text = isThere ? Files.readString(document).replaceAll("\\s+", " ") : "";
        } catch (IOException e) {
            throw new UncheckedIOException(e);
        }
        said = new boolean[text.length()];
        for (String pattern : FRAME) {
            Matcher m = Pattern.compile(pattern).matcher(text);
            while (m.find()) {
                mark(m.start(), m.end());
            }
        }
    }

    private void mark(int from, int to) {
        for (int i = from; i < to; i++) {
            said[i] = true;
        }
    }

    /** A test looks at these words of a part of the document: they must stand there, and once. */
    void say(String heading, String words) {
        if (!isThere) {
            return;
        }
        int begin = text.indexOf("## " + heading);
        int end = text.indexOf(" ## ", begin + 1);
        String part = begin < 0 || end < 0 ? "" : text.substring(begin, end);
        int at = part.indexOf(words);
        if (at < 0 || part.indexOf(words, at + 1) >= 0) {
            throw new IllegalStateException("not once in " + heading + " of the document: " + words);
        }
        mark(begin + at, begin + at + words.length());
    }

    /** What no test looks at, of the terms and the promises. */
    List<String> unsaid() {
        List<String> all = new ArrayList<>();
        int end = text.indexOf(" ## Not promised");
        int i = text.indexOf("## Terms");
        while (i < end) {
            int from = i;
            while (i < end && said[i] == said[from]) {
                i++;
            }
            String run = text.substring(from, i);
            if (!said[from] && run.matches(".*\\w.*")) {
                all.add(run);
            }
        }
        return all;
    }
}
