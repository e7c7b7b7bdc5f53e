import java.io.IOException;
import java.lang.reflect.Constructor;
import java.lang.reflect.Field;
import java.lang.reflect.Member;
import java.lang.reflect.Method;
import java.lang.reflect.Modifier;
import java.nio.file.Files;
import java.nio.file.Path;
import java.util.ArrayList;
import java.util.Arrays;
import java.util.List;
import java.util.Set;
import java.util.TreeSet;
import java.util.regex.Matcher;
import java.util.regex.Pattern;

/** The face is the document's and no more, and the source keeps to what of LANGUAGE.md can be looked up. */
public final class FaceTest {
    private static final Told told = new Told();

    private static final String[] FACE = {"feed(long,long,long) int", "net() int", "run() int", "curve(int,int) int",
        "node(int,int) int", "flow(int,int) int", "way(int,int) int", "value(int,int) int", "fold(int,int,int) int",
        "unfold(int,int,int) int throws", "star(int,int) int", "sub(int) boolean", "late(int,int) int",
        "behind(int,int) int throws", "above(int,int) int", "rounds() int", "delay(int,int) int",
        "arrives(int,int,int) int", "left(int,int,int) int", "total(int) int", "once(int) int", "full(int) int",
        "comes(int,int) int", "saves(int) int throws", "worst() int", "tries(int,int,int) int", "tune(int,int) int",
        "put(int,int) int", "tick() int", "judged(int) int", "fits(int) boolean", "holds(int) boolean",
        "serves(int) int", "latest(int) int", "oldest(int) int", "see(int,int,boolean) boolean", "who() int",
        "look() int", "loads(int,int,int) int", "mark(int,boolean) boolean", "count(int) int"};

    private static String told(Method m) {
        StringBuilder s = new StringBuilder(m.getName()).append('(');
        for (Class<?> type : m.getParameterTypes()) {
            s.append(s.charAt(s.length() - 1) == '(' ? "" : ",").append(type.getName());
        }
        s.append(") ").append(m.getReturnType().getName());
        boolean known = Arrays.equals(m.getExceptionTypes(), new Class<?>[] {java.util.NoSuchElementException.class});
        return s.append(known ? " throws" : m.getExceptionTypes().length > 0 ? " throws others" : "").toString();
    }

    private static void face() {
        told.due("final", Modifier.isFinal(DelayBounds.class.getModifiers()), true);
        told.due("public", Modifier.isPublic(DelayBounds.class.getModifiers()), true);
        Set<String> due = new TreeSet<>(Arrays.asList(FACE));
        Set<String> got = new TreeSet<>();
        List<Member> hidden = new ArrayList<>();
        for (Method m : DelayBounds.class.getDeclaredMethods()) {
            if (Modifier.isPublic(m.getModifiers())) {
                got.add(told(m));
            } else {
                hidden.add(m);
            }
        }
        told.due("the methods " + got, got.equals(due), true);
        for (Field f : DelayBounds.class.getDeclaredFields()) {
            if (f.getName().equals("NONE")) {
                told.due("NONE", f.getModifiers(), Modifier.PUBLIC | Modifier.STATIC | Modifier.FINAL);
            } else {
                hidden.add(f);
            }
        }
        for (Member m : hidden) {
            told.due("private: " + m, Modifier.isPrivate(m.getModifiers()), true);
        }
        Constructor<?>[] all = DelayBounds.class.getDeclaredConstructors();
        told.due("constructors", all.length, 1);
        told.due("public, of no arguments", all[0].getParameterCount() == 0 && Modifier.isPublic(all[0].getModifiers()), true);
    }

    /** The list above is the document's: it is looked up there, where the document is at hand. */
    private static void documentsFace(Path document) throws IOException {
        if (!Files.isReadable(document)) {
            System.out.println("no document at " + document + ": its face is not looked up");
            return;
        }
        Set<String> got = new TreeSet<>();
        Matcher m = Pattern.compile("public (\\w+) (\\w+)\\(([^)]*)\\)( throws NoSuchElementException)?;")
            .matcher(Files.readString(document));
        while (m.find()) {
            String types = m.group(3).replaceAll(" \\w+(, |$)", "$1").replace(", ", ",");
            got.add(m.group(2) + "(" + types + ") " + m.group(1) + (m.group(4) == null ? "" : " throws"));
        }
        told.due("the document's face: " + got, got.equals(new TreeSet<>(Arrays.asList(FACE))), true);
    }

    private static void classes() {
        Set<String> names = new TreeSet<>();
        for (String method : FACE) {
            names.add(method.substring(0, method.indexOf('(')));
        }
        Class<?>[] inside = DelayBounds.class.getDeclaredClasses();
        told.due("twelve classes at most: " + inside.length, inside.length < 12, true);
        List<Class<?>> all = new ArrayList<>(Arrays.asList(inside));
        all.add(DelayBounds.class);
        for (Class<?> c : all) {
            int fields = 0;
            for (Field f : c.getDeclaredFields()) {
                if (Modifier.isStatic(f.getModifiers())) {
                    told.due("final: " + f, Modifier.isFinal(f.getModifiers()), true);
                } else {
                    fields++;
                }
            }
            told.due("fields of " + c + ": " + fields, fields <= 20, true);
            for (Method m : c.getDeclaredMethods()) {
                told.due("parameters of " + m, m.getParameterCount() <= 7, true);
                boolean isFace = c == DelayBounds.class && Modifier.isPublic(m.getModifiers());
                told.due("a name of the face: " + m, !isFace && names.contains(m.getName()), false);
            }
            if (c != DelayBounds.class) {
                told.due("static: " + c, Modifier.isStatic(c.getModifiers()), true);
            }
        }
    }

    private static void never(String source, String pattern) {
        Matcher m = Pattern.compile(pattern).matcher(source);
        told.due("in the source: " + pattern, m.find(), false);
    }

    private static void source(Path path) throws IOException {
        String raw = Files.readString(path);
        told.due("signs 1 to 127 alone", raw.chars().allMatch(c -> c > 0 && c < 128), true);
        String source = raw.replaceAll("(?s)/\\*.*?\\*/", "").replaceAll("//[^\n]*", "");
        told.due("one import", source.split("\\bimport\\b").length, 2);
        told.due("of NoSuchElementException", source.contains("import java.util.NoSuchElementException;"), true);
        for (String word : new String[] {"package", "try", "catch", "finally", "synchronized", "assert", "instanceof",
            "double", "float", "System\\.(?!arraycopy)", "Object", "hashCode", "equals", "Thread", "Random", "->", "::",
            "while \\(true\\)", "for \\(;;\\)", "\\w+Exact\\b", "throw new (?!NoSuchElementException\\(\\))",
            "\" *\\+|\\+ *\""}) {
            never(source, Character.isLetter(word.charAt(0)) ? "\\b" + word : word);
        }
        int begin = 0;
        String[] lines = raw.split("\n");
        for (int i = 0; i < lines.length; i++) {
            if (lines[i].matches(" {4,8}\\S.*\\{") && !lines[i].contains(" class ")) {
                begin = i;
            }
            if (lines[i].matches(" {4,8}\\}")) {
                told.due("lines of the method at " + (begin + 1) + ": " + (i - begin + 1), i - begin + 1 <= 60, true);
            }
        }
    }

    public static void main(String[] args) throws IOException {
        face();
        documentsFace(Path.of("..", "shared", "DOC.md"));
        classes();
        // .ci/run says which source the class was compiled from
        source(Path.of(args.length > 0 ? args[0] : "src/main/java/DelayBounds.java"));
        told.end();
    }
}
