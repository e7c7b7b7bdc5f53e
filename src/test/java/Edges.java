import java.lang.reflect.InvocationTargetException;
import java.lang.reflect.Method;
import java.lang.reflect.Modifier;
import java.nio.file.Path;
import java.util.Arrays;
import java.util.Comparator;

/** What the tests of boundary cases share. Each is a method of its own that says which sentence it looks at. */
abstract class Edges {
    static final Told told = new Told();
    static final Sentences document = new Sentences(Path.of("..", "shared", "DOC.md"));
    static final int NONE = DelayBounds.NONE;
    static final int LEAST = Integer.MIN_VALUE;
    static final int MOST = Integer.MAX_VALUE;

    private static String sentence = "";

    /** The words of the terms that a test looks at. */
    static void term(String words) {
        document.say("Terms", words);
        sentence = "Terms, \"" + words + "\": ";
    }

    /** The words of a promise that a test looks at. */
    static void promise(int number, String words) {
        document.say("Promise " + number + ":", words);
        sentence = "Promise " + number + ", \"" + words + "\": ";
    }

    /** The words ahead of the terms that a test looks at. */
    static void begin(String words) {
        document.say("What it is", words);
        sentence = "What it is, \"" + words + "\": ";
    }

    static void due(String call, long got, long want) {
        told.due(sentence + call, got, want);
    }

    static void due(String call, boolean got, boolean want) {
        told.due(sentence + call, got, want);
    }

    static void dueNoSuchElement(String call, Told.Call of) {
        told.dueNoSuchElement(sentence + call, of);
    }

    /** A text with a ` ahead of the token that is wrong; kind 0: none is. */
    private static int faultOf(int kind, String text) {
        return kind == 0 ? 0 : kind + 16 * text.indexOf('`');
    }

    static void net(int kind, String text) {
        due("net of " + text, Told.net(new DelayBounds(), text.replace("`", "")), faultOf(kind, text));
    }

    static void run(int kind, String net, String text) {
        due("run of " + text, Told.run(Told.of(net), text.replace("`", "")), faultOf(kind, text));
    }

    static String times(String text, int many) {
        return text.repeat(many);
    }

    static void ticks(DelayBounds x, int many) {
        for (int i = 0; i < many; i++) {
            x.tick();
        }
    }

    /** Each of the tests in a class; one that says no sentence, or looks at no answer, is none. */
    static void runAll(Class<?> tests) {
        Method[] all = tests.getDeclaredMethods();
        Arrays.sort(all, Comparator.comparing(Method::getName));
        for (Method m : all) {
            boolean isTest = Modifier.isStatic(m.getModifiers()) && m.getParameterCount() == 0
                && m.getReturnType() == void.class && !m.isSynthetic();
            if (isTest) {
                runOne(m);
            }
        }
    }

    private static void runOne(Method m) {
        sentence = "";
        int before = told.looked();
        try {
            m.setAccessible(true);
            m.invoke(null);
        } catch (InvocationTargetException e) {
            throw new IllegalStateException(m.getName() + " could not be run", e.getCause());
        } catch (IllegalAccessException e) {
            throw new IllegalStateException(m.getName(), e);
        }
        told.due(m.getName() + " says its sentence and looks at answers",
            !sentence.isEmpty() && told.looked() > before, true);
    }
}
