import java.io.IOException;
import java.lang.reflect.Constructor;
import java.lang.reflect.Field;
import java.lang.reflect.Method;
import java.lang.reflect.Modifier;
import java.nio.file.Files;
import java.nio.file.Path;
import java.util.Arrays;
import java.util.List;
import java.util.Set;
import java.util.TreeSet;
import java.util.regex.Matcher;
import java.util.regex.Pattern;

/** What of ../shared/LANGUAGE.md can be looked at from outside: the face, the sizes, the words that may not stand. */
public final class LanguageTest {
    private static final Check check = new Check();

    public static void main(String[] args) throws IOException {
        face();
        classesInside();
        words();
        check.finish("LanguageTest");
    }

    private static String signature(Method m) {
        StringBuilder text = new StringBuilder(m.getName()).append('(');
        for (Class<?> type : m.getParameterTypes()) {
            text.append(type.getName().charAt(0));
        }
        return text.append(')').append(m.getReturnType().getName().charAt(0)).toString();
    }

    /** The document's face, each method as signature() tells it; its constant and its constructor are looked at here. */
    private static Set<String> documentsFace() throws IOException {
        String doc = Files.readString(Path.of("../shared/DOC.md"));
        Matcher block = Pattern.compile("(?s)## The public face\\s+```java\n(.*?)```").matcher(doc);
        String lines = block.find() ? block.group(1) : "";
        check.due("NONE", lines.contains("public static final int NONE = " + SensorTree.NONE + ";"), true);
        check.due("the constructor", lines.contains("public SensorTree();"), true);
        Set<String> face = new TreeSet<>();
        Matcher m = Pattern.compile("public (int|boolean) (\\w+)\\((.*?)\\);").matcher(lines);
        while (m.find()) {
            String given = m.group(3).replaceAll("(\\w)\\w* \\w+(, )?", "$1");
            face.add(m.group(2) + "(" + given + ")" + m.group(1).charAt(0));
        }
        check.due("methods of the face", face.size(), 37);
        return face;
    }

    private static void face() throws IOException {
        Set<String> open = new TreeSet<>();
        Set<String> names = new TreeSet<>();
        for (Method m : SensorTree.class.getDeclaredMethods()) {
            if (Modifier.isPublic(m.getModifiers())) {
                open.add(signature(m));
                names.add(m.getName());
            } else {
                check.due(m + " is private", Modifier.isPrivate(m.getModifiers()), true);
            }
        }
        check.due("the face " + open, open.equals(documentsFace()), true);
        for (Class<?> inside : allClasses()) {
            for (Method m : inside.getDeclaredMethods()) {
                boolean hides = names.contains(m.getName()) && Modifier.isPrivate(m.getModifiers());
                check.due(m + " bears a public one's name", hides, false);
            }
        }
        for (Field f : SensorTree.class.getDeclaredFields()) {
            boolean isPrivate = Modifier.isPrivate(f.getModifiers());
            check.due(f + " is private or NONE", isPrivate || f.getName().equals("NONE"), true);
            check.due(f + " is public only if NONE", Modifier.isPublic(f.getModifiers()) == f.getName().equals("NONE"), true);
        }
        Constructor<?>[] made = SensorTree.class.getDeclaredConstructors();
        check.due("one constructor", made.length, 1);
        check.due("it takes nothing", made[0].getParameterCount(), 0);
        check.due("final", Modifier.isFinal(SensorTree.class.getModifiers()), true);
    }

    private static List<Class<?>> allClasses() {
        Class<?>[] inside = SensorTree.class.getDeclaredClasses();
        Class<?>[] all = Arrays.copyOf(inside, inside.length + 1);
        all[inside.length] = SensorTree.class;
        return Arrays.asList(all);
    }

    private static void classesInside() {
        check.due("classes", allClasses().size() <= 12, true);
        for (Class<?> c : allClasses()) {
            int fields = 0;
            for (Field f : c.getDeclaredFields()) {
                if (Modifier.isStatic(f.getModifiers())) {
                    check.due(f + " is final", Modifier.isFinal(f.getModifiers()), true);
                } else {
                    fields++;
                }
            }
            check.due("fields of " + c, fields <= 20, true);
            for (Method m : c.getDeclaredMethods()) {
                check.due("parameters of " + m, m.getParameterCount() <= 7, true);
            }
            boolean isStatic = c == SensorTree.class || Modifier.isStatic(c.getModifiers());
            check.due(c + " is static", isStatic, true);
        }
    }

    private static void words() throws IOException {
        String source = Files.readString(Path.of("src/main/java/SensorTree.java"));
        String bare = source.replaceAll("(?s)/\\*.*?\\*/", "").replaceAll("//[^\\n]*", "")
            .replaceAll("\"[^\"\\n]*\"", "\"\"");
        String[] forbidden = {"throw", "throws", "try", "catch", "synchronized", "assert", "import", "package", "Object",
            "hashCode", "toString", "random", "Thread", "System\\.(?!arraycopy)", "->", "::", "Exact", "protected", "native"};
        for (String word : forbidden) {
            String whole = word.matches("\\w+") ? "\\b" + word + "\\b" : word;
            check.due("'" + word + "' stands", Pattern.compile(whole).matcher(bare).find(), false);
        }
        Matcher method = Pattern.compile("(?m)^( +)(?:[\\w\\[\\]]+ )+\\w+\\([^;{]*\\) \\{$").matcher(source);
        int methods = 0;
        while (method.find()) {
            methods++;
            int end = source.indexOf("\n" + method.group(1) + "}", method.start());
            long lines = source.substring(method.start(), end).lines().count();
            check.due("lines of " + method.group().trim(), lines <= 60, true);
        }
        check.due("methods were found", methods > 80, true);
        for (int i = 0; i < source.length(); i++) {
            check.due("sign at " + i, source.charAt(i) < 128, true);
        }
    }
}
