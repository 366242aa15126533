import java.io.IOException;
import java.lang.reflect.InvocationTargetException;
import java.lang.reflect.Method;
import java.lang.reflect.Modifier;
import java.nio.file.Files;
import java.nio.file.Path;
import java.util.Arrays;
import java.util.Comparator;
import java.util.function.BooleanSupplier;

/**
 * What the tests of single sentences share. Each of them says where in the document its sentence stands and what it is,
 * in the document's own words; the rows behind that hold the sentence.
 */
final class Edge {
    static final int NEVER = 9999;
    static final int NONE = -1;
    static final int NOBODY = -2;
    private static final int[] WILD = {Integer.MIN_VALUE, Integer.MIN_VALUE + 1, -1000, -2, -1};
    private static final String DOC = document();

    private static String held = "";
    private static int sentences = 0;
    private static int rows = 0;
    private static int rowsOfSentence = 0;
    private static int wrong = 0;

    private Edge() { }

    // ---- the document

    static String document() {
        try {
            return oneBlank(Files.readString(Path.of("../shared/DOC.md")));
        } catch (IOException e) {
            throw new IllegalStateException("../shared/DOC.md can't be read", e);
        }
    }

    static String oneBlank(String text) {
        return text.replaceAll("\\s+", " ");
    }

    /** The part of the document that bears a name: Use, Terms, II, III, Promise 1 .. Promise 38. */
    static String part(String where) {
        if (where.equals("Use")) {
            return between("An object is used", "## The public face");
        }
        if (where.equals("Terms")) {
            return between("## Terms", "==== II.");
        }
        if (where.equals("II")) {
            return between("==== II.", "==== III.");
        }
        if (where.equals("III")) {
            return between("==== III.", "## Promise 1:");
        }
        return between("## " + where + ":", "## ");
    }

    private static String between(String from, String to) {
        int start = DOC.indexOf(from);
        int end = start < 0 ? -1 : DOC.indexOf(to, start + from.length());
        return end < 0 ? "" : DOC.substring(start, end);
    }

    // ---- tests and rows

    static void says(String where, String words) {
        endSentence();
        held = where + ": '" + words + "'";
        sentences++;
        if (!part(where).contains(words)) {
            fail("does not stand in the document");
        }
    }

    private static void endSentence() {
        if (!held.isEmpty() && rowsOfSentence == 0) {
            fail("has no row");
        }
        rowsOfSentence = 0;
        held = "";
    }

    private static void fail(String what) {
        wrong++;
        if (wrong <= 40) {
            System.out.println(held + "\n    " + what);
        }
    }

    static void due(String call, long got, long want) {
        rows++;
        rowsOfSentence++;
        if (got != want) {
            fail(call + " answered " + got + ", due is " + want);
        }
    }

    static void due(String call, boolean got, boolean want) {
        due(call, got ? 1 : 0, want ? 1 : 0);
    }

    /** Runs every method of a test that takes and answers nothing; each must say what it holds. */
    static void runAll(Class<?> test) throws IllegalAccessException {
        Method[] all = test.getDeclaredMethods();
        Arrays.sort(all, Comparator.comparing(Method::getName));
        for (Method m : all) {
            boolean isTest = m.getParameterCount() == 0 && m.getReturnType() == void.class
                && Modifier.isStatic(m.getModifiers()) && !Modifier.isPrivate(m.getModifiers());
            if (isTest) {
                int ahead = sentences;
                runOne(m);
                if (sentences == ahead) {
                    fail(m.getName() + " says not what it holds");
                }
                endSentence();
            }
        }
        System.out.println(test.getName() + ": " + sentences + " sentences, " + rows + " rows, " + wrong + " wrong");
        if (wrong != 0) {
            System.exit(1);
        }
    }

    private static void runOne(Method m) throws IllegalAccessException {
        try {
            m.invoke(null);
        } catch (InvocationTargetException e) {
            e.getCause().printStackTrace(System.out);
            fail(m.getName() + " threw " + e.getCause());
        }
    }

    // ---- what the rows are made of

    static void post(SensorTree tree, int post, int what, int want) {
        due("post(" + post + ", " + what + ") at tick " + tree.count(2), tree.post(post, what), want);
    }

    static void count(SensorTree tree, int what, int want) {
        due("count(" + what + ") at tick " + tree.count(2), tree.count(what), want);
    }

    static void route(SensorTree tree, int post, int to, int want) {
        due("route(" + post + ", " + to + ", 0) at tick " + tree.count(2), tree.route(post, to, 0), want);
    }

    /** Lets ticks go by, one at a time, till it is so. */
    static void until(SensorTree tree, BooleanSupplier isSo) {
        for (int i = 0; i < 300 && !isSo.getAsBoolean(); i++) {
            tree.ticks(1);
        }
        if (!isSo.getAsBoolean()) {
            fail("what was waited for did not come");
        }
    }

    /** Numbers that are none of 0 .. most: just beyond, and far beyond. */
    static int[] not0To(int most) {
        int[] all = Arrays.copyOf(WILD, WILD.length + 4);
        all[WILD.length] = most + 1;
        all[WILD.length + 1] = most + 2;
        all[WILD.length + 2] = 65536 + most;
        all[WILD.length + 3] = Integer.MAX_VALUE;
        return all;
    }

    /** Numbers that are none of least .. most. */
    static int[] not(int least, int most) {
        int[] all = Arrays.copyOf(not0To(most), not0To(most).length + 1);
        all[all.length - 1] = least - 1;
        return all;
    }

    /** LOT, reckoned in 64 bits of which 32 are kept. */
    static int lot(int n, int seed, int which) {
        long low = 0xFFFFFFFFL;
        long h = seed & low;
        for (long it : new long[] {229, which & low}) {
            h = (h ^ it) * 1103515245L + 12345L & low;
            h = h ^ h >> 15;
        }
        return (int) ((h >> 1) % n);
    }

    static int fires(int timerLong, int seed, int tick, int post) {
        return timerLong / 2 + lot(timerLong / 2, seed, 8 * tick + post);
    }

    /** All that can be looked at, in one line: two objects with the same line stand alike. */
    static String all(SensorTree tree) {
        StringBuilder line = new StringBuilder();
        for (int what = 0; what <= 17; what++) {
            line.append(tree.count(what)).append(' ');
        }
        for (int post = 0; post < tree.count(0); post++) {
            for (int what = 0; what <= 10; what++) {
                line.append(tree.post(post, what)).append(' ');
            }
            for (int other = 0; other < tree.count(0); other++) {
                line.append(tree.heard(post, other)).append(' ').append(tree.route(post, other, 0)).append(' ');
                line.append(tree.route(post, other, 1)).append(' ');
            }
        }
        for (int link = 0; link < tree.count(1); link++) {
            for (int what = 0; what <= 4; what++) {
                line.append(tree.link(link, what)).append(' ');
            }
        }
        return line.append("place ").append(tree.place()).toString();
    }

    static void alike(String what, String now, String ahead) {
        due(what + (now.equals(ahead) ? "" : "\n    now   " + now + "\n    ahead " + ahead + "\n   "),
            now.equals(ahead), true);
    }
}
