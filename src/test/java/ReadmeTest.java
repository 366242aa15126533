import java.io.IOException;
import java.lang.reflect.InvocationTargetException;
import java.lang.reflect.Method;
import java.lang.reflect.Modifier;
import java.nio.charset.StandardCharsets;
import java.nio.file.DirectoryStream;
import java.nio.file.Files;
import java.nio.file.Path;
import java.util.regex.Matcher;
import java.util.regex.Pattern;

/** What README.md shows is so: its example is run line by line, and it names every call, setting and test. */
public final class ReadmeTest {
    private static final Check check = new Check();
    private static final Pattern CALL = Pattern.compile("tree\\.(\\w+)\\((.*?)\\);\\s+// ([^:]+)(?:: (.*))?");
    private static final Pattern SETTING = Pattern.compile("\\| `(\\w+) (\\d+);` \\| [^|]*, (\\d+) to (\\d+) \\|");

    public static void main(String[] args) throws IOException, ReflectiveOperationException {
        String readme = Files.readString(Path.of("README.md"));
        example(block(readme, "java"));
        calls(readme);
        settings(readme);
        tests(readme);
        check.finish("ReadmeTest");
    }

    private static String block(String readme, String sort) {
        Matcher m = Pattern.compile("(?s)```" + sort + "\n(.*?)```").matcher(readme);
        return m.find() ? m.group(1) : "";
    }

    // ---- the example

    private static void example(String block) throws ReflectiveOperationException {
        String[] lines = block.split("\n");
        check.due("the example makes an object", lines[0].equals("SensorTree tree = new SensorTree();"), true);
        check.due("the example has calls", lines.length > 20, true);
        SensorTree tree = new SensorTree();
        for (int i = 1; i < lines.length; i++) {
            Matcher call = CALL.matcher(lines[i]);
            boolean isCall = call.matches();
            check.due("a call with its answer: " + lines[i], isCall, true);
            if (isCall) {
                answers(tree, call);
            }
        }
    }

    private static void answers(SensorTree tree, Matcher call) throws ReflectiveOperationException {
        String[] told = call.group(2).isEmpty() ? new String[0] : call.group(2).split(", ");
        Method method = named(call.group(1));
        Object[] given = new Object[told.length];
        for (int i = 0; i < told.length; i++) {
            boolean isFlag = method.getParameterTypes()[i] == boolean.class;
            given[i] = isFlag ? (Object) Boolean.valueOf(told[i]) : Integer.decode(told[i]);
        }
        String got = String.valueOf(answer(tree, method, given));
        check.due(call.group() + ": it answered " + got, got.equals(call.group(3)), true);
        if (call.group(1).equals("feed")) {
            check.due(call.group() + ": its bytes are so", call.group(4).equals("\"" + bytes(given) + "\""), true);
        }
    }

    private static Object answer(SensorTree tree, Method method, Object[] given) throws ReflectiveOperationException {
        try {
            return method.invoke(tree, given);
        } catch (InvocationTargetException e) {
            return "by throwing " + e.getCause();
        }
    }

    private static Method named(String name) throws NoSuchMethodException {
        for (Method m : SensorTree.class.getDeclaredMethods()) {
            if (Modifier.isPublic(m.getModifiers()) && m.getName().equals(name)) {
                return m;
            }
        }
        throw new NoSuchMethodException(name);
    }

    private static String bytes(Object[] five) {
        byte[] all = new byte[20];
        for (int i = 0; i < 20; i++) {
            all[i] = (byte) ((Integer) five[i / 4] >>> 24 - 8 * (i % 4));
        }
        return new String(all, StandardCharsets.ISO_8859_1);
    }

    // ---- what it names

    private static void calls(String readme) {
        for (Method m : SensorTree.class.getDeclaredMethods()) {
            if (Modifier.isPublic(m.getModifiers())) {
                check.due("README names " + m.getName(), readme.contains("`" + m.getName() + "`"), true);
            }
        }
    }

    /** Each setting is told as README shows it: the number that holds if none is told, the least and the most. */
    private static void settings(String readme) {
        Matcher m = SETTING.matcher(readme);
        int settings = 0;
        while (m.find()) {
            settings++;
            String word = m.group(1);
            int least = Integer.parseInt(m.group(3));
            int most = Integer.parseInt(m.group(4));
            check.due(word + " " + least, reads(word, least), 0);
            check.due(word + " " + most, reads(word, most), 0);
            check.due(word + " " + (most + 1), reads(word, most + 1) != 0, true);
            check.due(word + " below", least == 0 || reads(word, least - 1) != 0, true);
            String goesOn = goesOn("");
            check.due(word + " as if told", goesOn(word + " " + m.group(2) + ";").equals(goesOn), true);
            check.due(word + " is seen", goesOn(word + " " + most + ";").equals(goesOn), false);
        }
        check.due("settings", settings, 9);
    }

    private static int reads(String word, int value) {
        return Check.read(new SensorTree(), word + " " + value + ";");
    }

    private static String goesOn(String more) {
        SensorTree tree = Check.of("post r;post a;post b;post c;link r a 1;link r b 3;link a b 1;link b c 2;goal costs;" + more);
        StringBuilder line = new StringBuilder();
        for (int i = 0; i < 60; i++) {
            tree.ticks(3);
            tree.cost(i % 4, 1 + i * 7 % 9);
            line.append(Edge.all(tree)).append('\n');
        }
        // calm enough for TIMERS to become as long as they can
        tree.ticks(200);
        return line.append(Edge.all(tree)).toString();
    }

    private static void tests(String readme) throws IOException {
        check.due("README names .ci/run", block(readme, "sh").equals(".ci/run\n"), true);
        check.due(".ci/run can be run", Files.isExecutable(Path.of(".ci/run")), true);
        try (DirectoryStream<Path> files = Files.newDirectoryStream(Path.of("src/test/java"), "*Test.java")) {
            for (Path file : files) {
                String name = file.getFileName().toString().replace(".java", "");
                check.due("README names " + name, readme.contains("`" + name + "`"), true);
            }
        }
        Matcher test = Pattern.compile("`(\\w+Test|Model|Mutants)`").matcher(readme);
        while (test.find()) {
            Path file = Path.of("src/test/java", test.group(1) + ".java");
            check.due(file + " is there", Files.exists(file), true);
        }
        Matcher path = Pattern.compile("`((?:src|\\.\\.|\\.ci)/[\\w./]+)`").matcher(readme);
        while (path.find()) {
            check.due(path.group(1) + " is there", Files.exists(Path.of(path.group(1))), true);
        }
    }
}
