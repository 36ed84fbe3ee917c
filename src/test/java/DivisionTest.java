import java.util.ArrayList;
import java.util.List;
import java.util.regex.Matcher;
import java.util.regex.Pattern;

/**
 * The tokens of all short lines over the bytes that matter, against a regular expression: a way of dividing
 * that shares nothing with the class. The greatest length can be given as an argument.
 */
public final class DivisionTest {
    private static final String BYTES = "\"\\# a(";
    /** A literal, a string, a comment, a word, another byte; a line ends with a line feed. */
    private static final Pattern TOKEN = Pattern.compile("(\"\"\".*?(?:\"\"\"|\\z))"
            + "|(\"(?:\\\\[^\\n]|[^\"\\\\\\n])*(?:\"|\\\\?(?=\\n)))"
            + "|(#[^\\n]*)|(\\w+)|([^ \\n])", Pattern.DOTALL);

    public static void main(String[] args) {
        Check.says(0, "The content of a line is divided from left to right.");
        int most = args.length > 0 ? Integer.parseInt(args[0]) : 6;
        for (String content : contents(most)) {
            same(content);
        }
        Check.says(0, "The part of a literal that lies in a later line than its beginning is no token of that line");
        for (String content : contents(4)) {
            same("\"\"\"a", content, "a\"\"\"\"a");
            same("a" + content, "\"\"\"(", "", content + "\"\"\"#", "\\" + content);
            same(content, content, content);
        }
        Check.finish();
    }

    /** All contents with at most so many bytes. */
    private static List<String> contents(int most) {
        List<String> all = new ArrayList<>(List.of(""));
        int from = 0;
        for (int size = 1; size <= most; size++) {
            int to = all.size();
            for (int n = from; n < to; n++) {
                for (char b : BYTES.toCharArray()) {
                    all.add(all.get(n) + b);
                }
            }
            from = to;
        }
        all.removeIf(content -> !content.equals(content.strip()));
        return all;
    }

    private static void same(String... contents) {
        AutoIndenter x = Check.withLines(contents);
        List<StringBuilder> due = byExpression(contents);
        for (int i = 0; i < contents.length; i++) {
            Check.due("line " + i + " of " + String.join(" | ", contents), protection(x, i) + Check.tokensOf(x, i),
                    due.get(i).toString());
        }
    }

    private static String protection(AutoIndenter x, int i) {
        return x.isProtected(i) == 1 ? "! " : "";
    }

    private static List<StringBuilder> byExpression(String[] contents) {
        String text = String.join("\n", contents) + "\n";
        List<StringBuilder> lines = new ArrayList<>();
        List<Integer> starts = new ArrayList<>();
        int start = 0;
        for (String content : contents) {
            lines.add(new StringBuilder());
            starts.add(start);
            start += content.length() + 1;
        }
        starts.add(start);
        Matcher token = TOKEN.matcher(text);
        while (token.find()) {
            int line = 0;
            while (starts.get(line + 1) <= token.start()) {
                line++;
            }
            if (token.group(3) == null) {
                int end = Math.min(token.end(), starts.get(line + 1) - 1);
                int kind = token.group(4) != null ? 0 : token.group(5) != null ? 1 : 2;
                lines.get(line).append(between(lines.get(line))).append(token.start() - starts.get(line)).append('+')
                        .append(end - token.start()).append(':').append(kind);
            }
            for (int later = line + 1; later < contents.length && starts.get(later) < token.end(); later++) {
                lines.get(later).append(contents[later].isEmpty() ? "" : "! ");
            }
        }
        return lines;
    }

    private static String between(StringBuilder line) {
        return line.isEmpty() || line.charAt(line.length() - 1) == ' ' ? "" : " ";
    }
}
