import java.io.ByteArrayOutputStream;
import java.io.IOException;
import java.io.PrintStream;
import java.lang.reflect.Method;
import java.lang.reflect.Modifier;
import java.nio.charset.StandardCharsets;
import java.nio.file.Files;
import java.nio.file.Path;

/** README.md shows an example that is so, and says every call and how the tests are run. */
public final class ReadmeTest {
    private static final Told told = new Told();

    private static String read(String path) throws IOException {
        return Files.readString(Path.of(path));
    }

    /** The text of the first block of that kind, without its fences. */
    private static String block(String page, String kind) {
        String fence = "```" + kind + "\n";
        int begin = page.indexOf(fence);
        int end = page.indexOf("```\n", begin + fence.length());
        return begin < 0 || end < 0 ? "" : page.substring(begin + fence.length(), end);
    }

    private static String printedByExample() {
        PrintStream before = System.out;
        ByteArrayOutputStream printed = new ByteArrayOutputStream();
        System.setOut(new PrintStream(printed, true, StandardCharsets.UTF_8));
        try {
            Example.main(new String[0]);
        } finally {
            System.setOut(before);
        }
        return printed.toString(StandardCharsets.UTF_8).replace(System.lineSeparator(), "\n");
    }

    private static void example(String page) throws IOException {
        told.due("README.md shows Example.java", block(page, "java").equals(read("src/test/java/Example.java")), true);
        String printed = printedByExample();
        told.due("README.md shows what it prints: " + printed, block(page, "text").equals(printed), true);
    }

    private static void calls(String page) {
        String table = page.substring(Math.max(0, page.indexOf("## The calls")));
        for (Method m : DelayBounds.class.getDeclaredMethods()) {
            if (Modifier.isPublic(m.getModifiers())) {
                int at = table.indexOf("`" + m.getName() + "(");
                String inside = at < 0 ? "" : table.substring(table.indexOf('(', at) + 1, table.indexOf(')', at));
                int many = inside.isEmpty() ? 0 : inside.split(", ").length;
                told.due("README.md tells " + m.getName() + " with its arguments", at >= 0 && many == m.getParameterCount(),
                    true);
            }
        }
    }

    private static void tests(String page) throws IOException {
        told.due("README.md says how to run the tests", page.contains("    bash .ci/run\n"), true);
        try (var files = Files.list(Path.of("src/test/java"))) {
            for (Path file : files.toList()) {
                String name = file.getFileName().toString().replace(".java", "");
                if (name.endsWith("Test")) {
                    told.due("README.md tells of " + name, page.contains("`" + name + "`"), true);
                }
            }
        }
    }

    public static void main(String[] args) throws IOException {
        String page = read("README.md");
        example(page);
        calls(page);
        tests(page);
        told.end();
    }
}
