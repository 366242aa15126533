import java.io.IOException;
import java.nio.file.DirectoryStream;
import java.nio.file.Files;
import java.nio.file.Path;
import java.util.ArrayList;
import java.util.List;
import java.util.Map;
import java.util.TreeMap;
import java.util.regex.Matcher;
import java.util.regex.Pattern;

/** No sentence of the document is left out: what the tests say they hold is, put together, all of it. */
public final class SentencesTest {
    private static final Check check = new Check();
    private static final Pattern SAYS = Pattern.compile("Edge\\.says\\(((?:\\s*\\+?\\s*,?\\s*\"(?:[^\"\\\\]|\\\\.)*\")+)\\);");
    private static final Pattern QUOTED = Pattern.compile("\"((?:[^\"\\\\]|\\\\.)*)\"");

    public static void main(String[] args) throws IOException {
        Map<String, List<String>> said = new TreeMap<>();
        try (DirectoryStream<Path> files = Files.newDirectoryStream(Path.of("src/test/java"), "Edge*Test.java")) {
            for (Path file : files) {
                collect(Files.readString(file), said);
            }
        }
        whole("Use", said);
        whole("Terms", said);
        whole("II", said);
        whole("III", said);
        for (int promise = 1; promise <= 38; promise++) {
            whole("Promise " + promise, said);
        }
        check.finish("SentencesTest");
    }

    private static void collect(String source, Map<String, List<String>> said) {
        Matcher says = SAYS.matcher(source);
        while (says.find()) {
            Matcher quoted = QUOTED.matcher(says.group(1));
            quoted.find();
            String where = quoted.group(1);
            StringBuilder words = new StringBuilder();
            while (quoted.find()) {
                words.append(quoted.group(1));
            }
            said.computeIfAbsent(where, key -> new ArrayList<>()).add(words.toString());
        }
    }

    private static void whole(String where, Map<String, List<String>> said) {
        String part = Edge.part(where);
        check.due(where + " stands in the document", part.isEmpty(), false);
        StringBuilder left = new StringBuilder(part);
        for (String words : said.getOrDefault(where, List.of())) {
            for (int at = part.indexOf(words); at >= 0; at = part.indexOf(words, at + 1)) {
                for (int i = at; i < at + words.length(); i++) {
                    left.setCharAt(i, ' ');
                }
            }
        }
        String rest = Edge.oneBlank(left.toString()).replaceFirst("^## (Promise \\d+: .*?`: |Terms)", "")
            .replaceFirst("^==== I+\\.", "").replace("```text", "").replace("```", "").trim();
        check.due(where + ": no test says '" + rest + "'", rest.isEmpty(), true);
    }
}
