import java.io.File;
import java.io.IOException;
import java.nio.file.Files;
import java.nio.file.Path;
import java.util.ArrayList;
import java.util.Comparator;
import java.util.List;
import java.util.concurrent.Callable;
import java.util.concurrent.ExecutorService;
import java.util.concurrent.Executors;
import java.util.concurrent.Future;
import java.util.concurrent.TimeUnit;
import java.util.regex.Matcher;
import java.util.regex.Pattern;
import java.util.stream.Stream;

/**
 * Breaks SensorTree.java in one place at a time and tells which breaks no test notices. No test itself: it takes minutes.
 * Arguments: the directory of the compiled tests, then the tests to run on each broken class (all Edge*Test if none).
 */
public final class Mutants {
    private static final Path SOURCE = Path.of("src/main/java/SensorTree.java");
    private static final int SECONDS = 60;

    private record Mutant(int at, int length, String instead) { }

    public static void main(String[] args) throws Exception {
        String source = Files.readString(SOURCE);
        List<String> tests = new ArrayList<>();
        for (int i = 1; i < args.length; i++) {
            tests.add(args[i]);
        }
        if (tests.isEmpty()) {
            tests.addAll(List.of("EdgeTextTest", "EdgeCallsTest", "EdgeWordTest", "EdgeAheadTest", "EdgeTickTest"));
        }
        List<Mutant> all = mutants(source);
        ExecutorService workers = Executors.newFixedThreadPool(Runtime.getRuntime().availableProcessors());
        List<Future<String>> told = new ArrayList<>();
        for (Mutant m : all) {
            Callable<String> one = () -> run(source, m, args[0], tests);
            told.add(workers.submit(one));
        }
        int left = 0;
        for (int i = 0; i < all.size(); i++) {
            String how = told.get(i).get();
            if (how.equals("left")) {
                left++;
                System.out.println(shown(source, all.get(i)));
            }
        }
        workers.shutdown();
        System.out.println(all.size() + " mutants, " + left + " that no test notices");
    }

    private static List<Mutant> mutants(String source) {
        String bare = blanked(source);
        List<Mutant> all = new ArrayList<>();
        replace(bare, all, " < ", " <= ");
        replace(bare, all, " <= ", " < ");
        replace(bare, all, " > ", " >= ");
        replace(bare, all, " >= ", " > ");
        replace(bare, all, " == ", " != ");
        replace(bare, all, " != ", " == ");
        replace(bare, all, " && ", " || ");
        replace(bare, all, " || ", " && ");
        replace(bare, all, " + ", " - ");
        replace(bare, all, " - ", " + ");
        replace(bare, all, "++", "--");
        replace(bare, all, "--", "++");
        replace(bare, all, ">>>", ">>");
        replace(bare, all, "true", "false");
        replace(bare, all, "false", "true");
        Matcher number = Pattern.compile("(?<![\\w.])\\d+(?!\\w)").matcher(bare);
        while (number.find()) {
            long n = Long.parseLong(number.group());
            all.add(new Mutant(number.start(), number.group().length(), Long.toString(n + 1)));
            if (n > 0) {
                all.add(new Mutant(number.start(), number.group().length(), Long.toString(n - 1)));
            }
        }
        // a line that does something is left out
        Matcher line = Pattern.compile("(?m)^ +[\\w.\\[\\]]+(?: [-+|]?= [^;]*|\\+\\+|--|\\([^;{]*\\));$").matcher(bare);
        while (line.find()) {
            all.add(new Mutant(line.start(), line.group().length(), ""));
        }
        all.sort(Comparator.comparingInt(Mutant::at));
        return all;
    }

    /** The source with blanks for its remarks and texts, so that places stay. */
    private static String blanked(String source) {
        StringBuilder bare = new StringBuilder(source);
        Matcher m = Pattern.compile("(?s)/\\*.*?\\*/|//[^\\n]*|\"[^\"\\n]*\"").matcher(source);
        while (m.find()) {
            for (int i = m.start(); i < m.end(); i++) {
                if (bare.charAt(i) != '\n') {
                    bare.setCharAt(i, '~');
                }
            }
        }
        return bare.toString();
    }

    private static void replace(String bare, List<Mutant> all, String from, String to) {
        for (int at = bare.indexOf(from); at >= 0; at = bare.indexOf(from, at + 1)) {
            all.add(new Mutant(at, from.length(), to));
        }
    }

    private static String shown(String source, Mutant m) {
        int start = source.lastIndexOf('\n', m.at) + 1;
        int end = source.indexOf('\n', m.at + m.length);
        long number = source.substring(0, m.at).lines().count();
        String was = source.substring(m.at, m.at + m.length).trim();
        return number + ": " + source.substring(start, end).trim() + "   | " + was + " -> " + m.instead.trim();
    }

    /** How a broken class fares: it does not compile, a test notices, or it is left. */
    private static String run(String source, Mutant m, String compiled, List<String> tests) throws IOException, InterruptedException {
        Path out = Files.createTempDirectory("mutant");
        try {
            Path file = out.resolve("SensorTree.java");
            Files.writeString(file, source.substring(0, m.at) + m.instead + source.substring(m.at + m.length));
            if (start(out, "javac", "-d", out.toString(), file.toString()) != 0) {
                return "does not compile";
            }
            for (String test : tests) {
                if (start(out, "java", "-XX:TieredStopAtLevel=1", "-cp", out + File.pathSeparator + compiled, test) != 0) {
                    return "noticed";
                }
            }
            return "left";
        } finally {
            try (Stream<Path> files = Files.walk(out)) {
                files.sorted(Comparator.reverseOrder()).map(Path::toFile).forEach(File::delete);
            }
        }
    }

    private static int start(Path out, String... command) throws IOException, InterruptedException {
        Process process = new ProcessBuilder(command).redirectErrorStream(true).redirectOutput(out.resolve("said").toFile()).start();
        if (!process.waitFor(SECONDS, TimeUnit.SECONDS)) {
            process.destroyForcibly().waitFor();
            return 1;
        }
        return process.exitValue();
    }
}
