import java.io.IOException;
import java.io.UncheckedIOException;
import java.nio.file.Files;
import java.nio.file.Path;
import java.util.ArrayList;
import java.util.LinkedHashMap;
import java.util.List;
import java.util.Map;
import java.util.regex.Matcher;
import java.util.regex.Pattern;

/**
 * The sentences of ../shared/DOC.md by promise, 0 for its sections "What it is" and "Terms". What stands behind
 * "Returns" is divided at its semicolons, because each part there tells a case of its own, and what is said of a
 * parameter is a sentence too.
 */
final class Doc {
    private static final String TEXT = read();
    private static final Map<Integer, List<String>> SENTENCES = divide();

    private Doc() {
    }

    static String text() {
        return TEXT;
    }

    static Map<Integer, List<String>> sentences() {
        return SENTENCES;
    }

    /** Whether the words stand in one of the sentences of the promise. */
    static boolean has(int promise, String words) {
        return SENTENCES.getOrDefault(promise, List.of()).stream().anyMatch(s -> s.contains(words));
    }

    private static String read() {
        try {
            return Files.readString(Path.of("../shared/DOC.md"));
        } catch (IOException e) {
            throw new UncheckedIOException(e);
        }
    }

    private static Map<Integer, List<String>> divide() {
        Map<Integer, List<String>> all = new LinkedHashMap<>();
        List<String> whole = sentencesOf(between("\n## What it is\n", "\n## The public face\n"));
        whole.addAll(sentencesOf(between("\n## Terms\n", "\nExamples:")));
        all.put(0, whole);
        Matcher promise = Pattern.compile("## Promise (\\d+):.*\n([\\s\\S]*?)(?=\n## )").matcher(TEXT);
        while (promise.find()) {
            all.put(Integer.parseInt(promise.group(1)), sentencesOf(promise.group(2)));
        }
        return all;
    }

    private static String between(String begin, String end) {
        int from = TEXT.indexOf(begin) + begin.length();
        return TEXT.substring(from, TEXT.indexOf(end, from));
    }

    private static List<String> sentencesOf(String section) {
        List<String> found = new ArrayList<>();
        for (String line : section.split("\n")) {
            if (line.startsWith("- `")) {
                found.add(line.substring(2));
                continue;
            }
            String plain = line.replaceFirst("^(- |\\d+\\. )", "").replaceFirst("^[A-Z ]+\\. ", "")
                    .replaceFirst("^`[^`]*`: ", "");
            boolean returns = plain.startsWith("Returns") && !plain.endsWith("(5).") && !line.startsWith("`");
            for (String s : plain.split(returns ? "; " : "(?<=\\.) (?=[A-Z(])")) {
                if (!s.isBlank()) {
                    found.add(s);
                }
            }
        }
        return found;
    }
}
