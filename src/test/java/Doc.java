import java.io.IOException;
import java.io.UncheckedIOException;
import java.nio.file.Files;
import java.nio.file.Path;
import java.util.ArrayList;
import java.util.LinkedHashMap;
import java.util.List;
import java.util.Map;
import java.util.regex.Matcher;
import java.util.regex.Pattern;

/**
 * The sentences of ../shared/DOC.md by promise, 0 for its section "Terms". What stands behind "Returns" is
 * divided at its semicolons, because each part there tells a case of its own.
 */
final class Doc {
    private static final Path PLACE = Path.of("../shared/DOC.md");
    private static final Map<Integer, List<String>> SENTENCES = read();

    private Doc() {
    }

    static Map<Integer, List<String>> sentences() {
        return SENTENCES;
    }

    /** Whether the words stand in one of the sentences of the promise. */
    static boolean has(int promise, String words) {
        return SENTENCES.getOrDefault(promise, List.of()).stream().anyMatch(s -> s.contains(words));
    }

    private static Map<Integer, List<String>> read() {
        String text;
        try {
            text = Files.readString(PLACE);
        } catch (IOException e) {
            throw new UncheckedIOException(e);
        }
        Map<Integer, List<String>> all = new LinkedHashMap<>();
        int terms = text.indexOf("RETURN VALUES.");
        all.put(0, sentencesOf(text.substring(terms, text.indexOf("\nExamples:"))));
        Matcher promise = Pattern.compile("## Promise (\\d+):.*\n([\\s\\S]*?)(?=\n## )").matcher(text);
        while (promise.find()) {
            all.put(Integer.parseInt(promise.group(1)), sentencesOf(promise.group(2)));
        }
        return all;
    }

    private static List<String> sentencesOf(String section) {
        List<String> found = new ArrayList<>();
        for (String line : section.split("\n")) {
            if (line.matches("- `.*")) {
                continue;
            }
            String plain = line.replaceFirst("^(- |\\d+\\. )", "").replaceFirst("^[A-Z ]+\\. ", "")
                    .replaceFirst("^`[^`]*`: ", "");
            boolean returns = plain.startsWith("Returns") && !plain.endsWith("(5).") && !line.startsWith("`");
            for (String s : plain.split(returns ? "; " : "(?<=\\.) (?=[A-Z(])")) {
                if (!s.isBlank()) {
                    found.add(s);
                }
            }
        }
        return found;
    }
}
