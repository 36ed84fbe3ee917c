/** What the tests of the project share: counting wrong answers, and typing whole texts. */
final class Check {
    private static int wrong = 0;
    private static int checked = 0;

    private Check() {
    }

    static void due(String call, long got, long want) {
        checked++;
        if (got != want) {
            wrong++;
            System.out.println(call + " answered " + got + ", due is " + want);
        }
    }

    static void due(String what, String got, String want) {
        checked++;
        if (!got.equals(want)) {
            wrong++;
            System.out.println(what + " is <" + got + ">, due is <" + want + ">");
        }
    }

    static void finish() {
        System.out.println(checked + " answers, " + wrong + " of them wrong");
        if (wrong != 0) {
            System.exit(1);
        }
    }

    /** Puts a text into the text buffer in place of the one before. */
    static void put(AutoIndenter x, String text) {
        x.clear();
        for (int k = 0; k < text.length(); k++) {
            x.type(text.charAt(k));
        }
    }

    static AutoIndenter withLines(String... texts) {
        AutoIndenter x = new AutoIndenter();
        addLines(x, texts);
        return x;
    }

    static void addLines(AutoIndenter x, String... texts) {
        for (String text : texts) {
            put(x, text);
            due("insertLine of '" + text + "'", x.insertLine(x.lines()), x.lines());
        }
    }

    static int pair(AutoIndenter x, int r, String text, int precedence, int steps, int aligned, int closing) {
        put(x, text);
        return x.pair(r, precedence, steps, aligned, closing);
    }

    static int starter(AutoIndenter x, int r, String text, int precedence, int steps) {
        put(x, text);
        return x.starter(r, precedence, steps);
    }

    static int joiner(AutoIndenter x, int r, String text, int precedence, int steps) {
        put(x, text);
        return x.joiner(r, precedence, steps);
    }

    static String content(AutoIndenter x, int i) {
        StringBuilder text = new StringBuilder();
        for (int k = 0; k < x.length(i); k++) {
            text.append((char) x.byteAt(i, k));
        }
        return text.toString();
    }

    /** The line with its spaces, behind a * if it is pinned. */
    static String line(AutoIndenter x, int i) {
        return (x.isPinned(i) == 1 ? "*" : "") + " ".repeat(Math.max(0, x.indentation(i))) + content(x, i);
    }

    static String allLines(AutoIndenter x) {
        StringBuilder text = new StringBuilder();
        for (int i = 0; i < x.lines(); i++) {
            text.append(line(x, i)).append('|');
        }
        return text.toString();
    }

    static String wantedOfAll(AutoIndenter x) {
        StringBuilder text = new StringBuilder();
        for (int i = 0; i < x.lines(); i++) {
            text.append(i == 0 ? "" : " ").append(x.wanted(i));
        }
        return text.toString();
    }

    static String tokensOf(AutoIndenter x, int i) {
        StringBuilder text = new StringBuilder();
        for (int k = 0; k < x.tokens(i); k++) {
            text.append(k == 0 ? "" : " ").append(x.tokenAt(i, k)).append('+').append(x.tokenLength(i, k))
                    .append(':').append(x.tokenKind(i, k));
        }
        return text.toString();
    }
}
