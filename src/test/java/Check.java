import java.util.function.Supplier;

/** What the tests of the project share: counting wrong answers, and typing whole texts. */
final class Check {
    /** A call whose answer is looked at. */
    interface Call {
        long on(AutoIndenter x);
    }

    private static int wrong = 0;
    private static int checked = 0;
    /** What is printed before a wrong answer: the sentence of the document that asks for another one. */
    private static String under = "";

    private Check() {
    }

    static void due(String call, long got, long want) {
        checked++;
        if (got != want) {
            wrong++;
            System.out.println(under + call + " answered " + got + ", due is " + want);
        }
    }

    static void due(String what, String got, String want) {
        checked++;
        if (!got.equals(want)) {
            wrong++;
            System.out.println(under + what + " is <" + got + ">, due is <" + want + ">");
        }
    }

    /** The checks from here on hold these words of a promise, or of the section "Terms" if it is 0. */
    static void says(int promise, String... words) {
        under = (promise == 0 ? "Terms" : "Promise " + promise) + ", '" + words[0] + "': ";
        for (String w : words) {
            due("'" + w + "' stands in the document", Doc.has(promise, w) ? 1 : 0, 1);
        }
    }

    /** The call answers with this code, and then all is as in a twin that has not seen the call. */
    static void refused(String call, Supplier<AutoIndenter> maker, Call run, long code) {
        AutoIndenter x = maker.get();
        due(call, run.on(x), code);
        due("everything behind " + call, everything(x), everything(maker.get()));
    }

    /** The call changes nothing, whatever it answers. */
    static void silent(String call, Supplier<AutoIndenter> maker, Call run) {
        AutoIndenter x = maker.get();
        run.on(x);
        due("everything behind " + call, everything(x), everything(maker.get()));
    }

    /** All that can be seen of an object, remembered states, images and text buffer included; uses it up. */
    private static String everything(AutoIndenter x) {
        StringBuilder all = new StringBuilder().append(x.digest());
        for (int left = x.undo(); left != AutoIndenter.STATE; left = x.undo()) {
            all.append(" undo ").append(left).append(' ').append(x.digest());
        }
        for (int k = 0; k < 2; k++) {
            all.append(" back ").append(x.back(k)).append(' ').append(x.digest());
        }
        if (x.lines() == 20) {
            x.removeLine(0);
        }
        all.append(" buffer ").append(x.insertLine(0)).append(line(x, 0)).append(x.pair(0, 0, 0, 0, 0));
        return all.append(' ').append(x.digest()).append(' ').append(x.clear()).toString();
    }

    static void finish() {
        System.out.println(checked + " answers, " + wrong + " of them wrong");
        if (wrong != 0) {
            System.exit(1);
        }
    }

    /** Puts a text into the text buffer in place of the one before. */
    static void put(AutoIndenter x, String text) {
        x.clear();
        for (int k = 0; k < text.length(); k++) {
            x.type(text.charAt(k));
        }
    }

    static AutoIndenter buffered(AutoIndenter x, String text) {
        put(x, text);
        return x;
    }

    /** Some of everything: lines of all sorts, a pin, rules, settings, states, an image and a text. */
    static AutoIndenter some() {
        AutoIndenter x = withLines(" a (", "", "b +", "  c \"\"\"", "   d");
        pair(x, 0, "()", 5, 1, 0, 0);
        starter(x, 3, "b", 2, 1);
        joiner(x, 11, "+", 3, -1);
        x.pin(2);
        x.keep(1);
        x.setBase(2);
        return buffered(x, " q r ");
    }

    /** All that has a limit is full: lines, rules, states, images and the text buffer. */
    static AutoIndenter full() {
        AutoIndenter x = new AutoIndenter();
        for (int r = 0; r < 12; r++) {
            starter(x, r, String.valueOf((char) ('a' + r)), r % 10, 1);
        }
        put(x, " b ( c");
        while (x.lines() < 18) {
            x.insertLine(0);
        }
        x.keep(0);
        x.keep(1);
        addLines(x, " ".repeat(40) + "d", "e");
        return buffered(x, " ".repeat(40) + "f".repeat(32));
    }

    /** As many lines with the same text as asked for. */
    static AutoIndenter copies(int count, String text) {
        AutoIndenter x = buffered(new AutoIndenter(), text);
        for (int n = 0; n < count; n++) {
            x.insertLine(n);
        }
        return x;
    }

    static AutoIndenter withLines(String... texts) {
        AutoIndenter x = new AutoIndenter();
        addLines(x, texts);
        return x;
    }

    static void addLines(AutoIndenter x, String... texts) {
        for (String text : texts) {
            put(x, text);
            due("insertLine of '" + text + "'", x.insertLine(x.lines()), x.lines());
        }
    }

    static int pair(AutoIndenter x, int r, String text, int precedence, int steps, int aligned, int closing) {
        put(x, text);
        return x.pair(r, precedence, steps, aligned, closing);
    }

    static int starter(AutoIndenter x, int r, String text, int precedence, int steps) {
        put(x, text);
        return x.starter(r, precedence, steps);
    }

    static int joiner(AutoIndenter x, int r, String text, int precedence, int steps) {
        put(x, text);
        return x.joiner(r, precedence, steps);
    }

    static String content(AutoIndenter x, int i) {
        StringBuilder text = new StringBuilder();
        for (int k = 0; k < x.length(i); k++) {
            text.append((char) x.byteAt(i, k));
        }
        return text.toString();
    }

    /** The line with its spaces, behind a * if it is pinned. */
    static String line(AutoIndenter x, int i) {
        return (x.isPinned(i) == 1 ? "*" : "") + " ".repeat(Math.max(0, x.indentation(i))) + content(x, i);
    }

    static String allLines(AutoIndenter x) {
        StringBuilder text = new StringBuilder();
        for (int i = 0; i < x.lines(); i++) {
            text.append(line(x, i)).append('|');
        }
        return text.toString();
    }

    static String wantedOfAll(AutoIndenter x) {
        StringBuilder text = new StringBuilder();
        for (int i = 0; i < x.lines(); i++) {
            text.append(i == 0 ? "" : " ").append(x.wanted(i));
        }
        return text.toString();
    }

    static String tokensOf(AutoIndenter x, int i) {
        StringBuilder text = new StringBuilder();
        for (int k = 0; k < x.tokens(i); k++) {
            text.append(k == 0 ? "" : " ").append(x.tokenAt(i, k)).append('+').append(x.tokenLength(i, k))
                    .append(':').append(x.tokenKind(i, k));
        }
        return text.toString();
    }
}
