import java.io.IOException;
import java.nio.file.Files;
import java.nio.file.Path;
import java.util.ArrayList;
import java.util.HashMap;
import java.util.List;
import java.util.Map;
import java.util.regex.Matcher;
import java.util.regex.Pattern;
import java.util.stream.Stream;

/** Every sentence of the document is one that some test says it holds, by Check.says(..). */
public final class SentencesTest {
    private static final Pattern SAYS = Pattern.compile("Check\\.says\\(\\s*(\\w+)\\s*,((?:[^\"()]|\"(?:\\\\.|[^\"\\\\])*\")*)\\)");
    private static final Pattern TEXT = Pattern.compile("\"((?:\\\\.|[^\"\\\\])*)\"");

    private static final Map<Integer, List<String>> SAID = new HashMap<>();

    public static void main(String[] args) throws IOException {
        try (Stream<Path> tests = Files.list(Path.of("src/test/java"))) {
            for (Path test : tests.sorted().toList()) {
                read(Files.readString(test));
            }
        }
        Doc.sentences().forEach(SentencesTest::allAreSaid);
        Check.due("there are promises", Doc.sentences().size(), 53);
        Check.finish();
    }

    private static void read(String source) {
        Matcher says = SAYS.matcher(source);
        while (says.find()) {
            boolean any = says.group(1).equals("promise");
            List<Integer> promises = any ? List.of(22, 23) : List.of(Integer.valueOf(says.group(1)));
            for (String words : texts(says.group(2))) {
                promises.forEach(p -> SAID.computeIfAbsent(p, key -> new ArrayList<>()).add(words));
            }
        }
    }

    /** The texts between the commas; those that a plus joins are one. */
    private static List<String> texts(String arguments) {
        List<String> found = new ArrayList<>();
        Matcher text = TEXT.matcher(arguments);
        int end = 0;
        while (text.find()) {
            boolean joined = arguments.substring(end, text.start()).contains("+");
            String words = text.group(1).replaceAll("\\\\(.)", "$1");
            if (joined && !found.isEmpty()) {
                found.set(found.size() - 1, found.get(found.size() - 1) + words);
            } else {
                found.add(words);
            }
            end = text.end();
        }
        return found;
    }

    private static void allAreSaid(int promise, List<String> sentences) {
        for (String sentence : sentences) {
            boolean said = SAID.getOrDefault(promise, List.of()).stream().anyMatch(sentence::contains);
            if (!sentence.endsWith(":")) {
                Check.due("a test says, of promise " + promise + ": " + sentence, said ? 1 : 0, 1);
            }
        }
    }
}
