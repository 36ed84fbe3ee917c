import java.util.regex.Matcher;
import java.util.regex.Pattern;

/** The three examples of the document's section "Terms", call by call, as the document writes them. */
public final class ExamplesTest {
    private static final Pattern EXAMPLE = Pattern.compile("\n(\\d)\\. [^:\n]*: (type\\(.*)\\.\n");
    private static final Pattern CALL = Pattern.compile("(\\w+\\([^)]*\\)) = (-?\\d+)");

    public static void main(String[] args) throws Exception {
        String text = Doc.text();
        Matcher example = EXAMPLE.matcher(text.substring(text.indexOf("\nExamples:")));
        int calls = 0;
        while (example.find()) {
            calls += run(example.group(1), example.group(2).split("; "));
        }
        Check.due("the calls of the three examples", calls, 13 + 16 + 14);
        Check.finish();
    }

    private static int run(String number, String[] calls) throws Exception {
        AutoIndenter x = new AutoIndenter();
        for (String written : calls) {
            Matcher call = CALL.matcher(written);
            Check.due("example " + number + ", '" + written + "' is a call", call.matches() ? 1 : 0, 1);
            Check.due("example " + number + ": " + call.group(1), Calls.make(x, call.group(1)),
                    Calls.answer(call.group(2)));
        }
        return calls.length;
    }
}
