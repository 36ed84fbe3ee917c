import java.util.function.Supplier;

/** Promises 1 to 17, each sentence at its edges. */
public final class EdgesOfLinesTest {
    private static final int BAD = AutoIndenter.BAD, STATE = AutoIndenter.STATE, FULL = AutoIndenter.FULL;
    private static final int NONE = AutoIndenter.NONE;
    private static final String Q3 = "\"\"\"";
    private static final String BYTES32 = "abcdefghijklmnopqrstuvwxyz(){}[]";

    public static void main(String[] args) {
        newObject();
        type();
        clear();
        insertLine();
        longLinesMove();
        insertLineFull();
        replaceLine();
        removeLine();
        splitLine();
        splitLineIndentation();
        splitLineRefused();
        joinLines();
        joinLinesPins();
        joinLinesRefused();
        shift();
        shiftRefused();
        pin();
        reindent();
        linesAndIndentation();
        lengthAndByteAt();
        isProtected();
        isPinned();
        Check.finish();
    }

    /** There is no such line before the first one and behind the last one, however many there are. */
    private static void noSuchLine(String call, java.util.function.IntFunction<Check.Call> run) {
        for (int count : new int[] {0, 1, 2, 19, 20}) {
            Supplier<AutoIndenter> maker = () -> Check.copies(count, " a b");
            for (int i : new int[] {-1, count, count + 1}) {
                Check.refused(call + " of line " + i + " of " + count, maker, run.apply(i), BAD);
            }
        }
    }

    private static void newObject() {
        Check.says(1, "Creates an indenter without lines and rules; the text buffer and both images are empty.");
        AutoIndenter x = new AutoIndenter();
        Check.due("lines()", x.lines(), 0);
        for (int r = 0; r < 12; r++) {
            Check.due("dropRule(" + r + ")", x.dropRule(r), BAD);
        }
        Check.due("back(0)", x.back(0), BAD);
        Check.due("back(1)", x.back(1), BAD);
        Check.due("undo()", x.undo(), STATE);
        Check.due("pair of an empty text buffer", x.pair(0, 0, 0, 0, 0), -10);
        Check.due("clear()", x.clear(), 0);
        Check.due("depth(0)", x.depth(0), 0);
        Check.due("wouldChange()", x.wouldChange(), 0);
        Check.due("strays()", x.strays(), 0);
        Check.due("lost()", x.lost(), 0);
        Check.due("vocabulary()", x.vocabulary(), 0);
        Check.due("commonestCount()", x.commonestCount(), NONE);
        Check.due("keep(0)", x.keep(0), 0);
        Check.due("keep(1)", x.keep(1), 0);
    }

    private static void type() {
        Check.says(2, "Appends a byte to the text buffer.", "Returns how many bytes it has then");
        AutoIndenter x = new AutoIndenter();
        for (int c = 32; c <= 126; c++) {
            if (c == 80) {
                x.clear();
            }
            Check.due("type(" + c + ")", x.type(c), c < 80 ? c - 31 : c - 79);
        }
        Check.says(2, "BAD if c is out of range");
        for (int c : new int[] {-1, 0, 31, 127, 128, 32 + 256}) {
            Check.refused("type(" + c + ")", AutoIndenter::new, y -> y.type(c), BAD);
            Check.refused("type(" + c + ")", Check::some, y -> y.type(c), BAD);
            Check.refused("type(" + c + ") behind 72 bytes", Check::full, y -> y.type(c), BAD);
        }
        Check.says(2, "FULL if it has 72.");
        x = Check.buffered(new AutoIndenter(), " ".repeat(71));
        Check.due("the 72nd byte", x.type(97), 72);
        Check.due("the 73rd byte", x.type(97), FULL);
        Check.refused("the 73rd byte", Check::full, y -> y.type(97), FULL);
        Check.due("clear()", x.clear(), 72);
        Check.due("the first byte again", x.type(97), 1);
    }

    private static void clear() {
        Check.says(3, "Empties the text buffer.", "Returns how many bytes it had.");
        for (int n : new int[] {0, 1, 71, 72, 73}) {
            AutoIndenter x = Check.buffered(new AutoIndenter(), "a".repeat(n));
            Check.due("clear() of " + n, x.clear(), Math.min(n, 72));
            Check.due("clear() again", x.clear(), 0);
            Check.due("insertLine(0)", x.insertLine(0), 1);
            Check.due("a blank line", x.length(0), 0);
        }
        AutoIndenter x = Check.withLines("a");
        x.clear();
        Check.due("clear() is no change", x.undo(), 0);
    }

    private static void insertLine() {
        Check.says(4, "Inserts the line in the text buffer, which stays.", "The lines from i on get greater indices.",
                "Returns the number of lines then");
        AutoIndenter x = Check.withLines("a", "  b");
        x.pin(0);
        Check.put(x, "c");
        Check.due("insertLine(0), the first one", x.insertLine(0), 3);
        Check.due("insertLine(3), behind the last one", x.insertLine(3), 4);
        Check.due("insertLine(2)", x.insertLine(2), 5);
        Check.due("the lines", Check.allLines(x), "c|*a|c|  b|c|");
        Check.due("the text buffer stays", x.clear(), 1);
        Check.due("insertLine(5) of nothing", x.insertLine(5), 6);
        Check.due("a blank line", x.length(5), 0);
        x = Check.buffered(new AutoIndenter(), BYTES32);
        for (int n = 1; n <= 20; n++) {
            Check.due("line " + n, x.insertLine(n - 1), n);
        }
        Check.due("the first one", Check.line(x, 0), BYTES32);
        Check.due("the last one", Check.line(x, 19), BYTES32);
        Check.says(4, "BAD if i is out of range");
        for (int count : new int[] {0, 1, 19, 20}) {
            Supplier<AutoIndenter> maker = () -> Check.copies(count, "a");
            Check.refused("insertLine(-1) of " + count, maker, y -> y.insertLine(-1), BAD);
            Check.refused("insertLine behind " + count, maker, y -> y.insertLine(count + 1), BAD);
        }
    }

    private static String longLine(int n) {
        return String.valueOf((char) ('a' + n)) + BYTES32.substring(1, 31) + (char) ('A' + n);
    }

    /** Lines that fill their room do not touch one another when they get other indices. */
    private static void longLinesMove() {
        Check.says(4, "The lines from i on get greater indices.");
        for (int i : new int[] {0, 1, 10, 18, 19}) {
            AutoIndenter x = new AutoIndenter();
            for (int n = 0; n < 19; n++) {
                Check.put(x, longLine(n));
                x.insertLine(n);
            }
            Check.put(x, longLine(19));
            Check.due("insertLine(" + i + ")", x.insertLine(i), 20);
            for (int n = 0; n < 20; n++) {
                String due = longLine(n < i ? n : n == i ? 19 : n - 1);
                Check.due("line " + n, Check.content(x, n), due);
            }
            Check.due("removeLine(" + i + ")", x.removeLine(i), 19);
            for (int n = 0; n < 19; n++) {
                Check.due("line " + n, Check.content(x, n), longLine(n));
            }
        }
    }

    private static void insertLineFull() {
        Check.says(4, "FULL if there are 20 lines, or the text buffer is no line.");
        Check.due("the 20th line", Check.copies(19, "a").insertLine(19), 20);
        for (int i : new int[] {0, 10, 19, 20}) {
            Check.refused("the 21st line", () -> Check.copies(20, "a"), x -> x.insertLine(i), FULL);
            Check.refused("a blank 21st line", () -> Check.buffered(Check.full(), ""), x -> x.insertLine(i), FULL);
        }
        Check.due("40 spaces", Check.buffered(new AutoIndenter(), " ".repeat(40) + "a").insertLine(0), 1);
        Check.refused("41 spaces", () -> Check.buffered(Check.some(), " ".repeat(41) + "a"), x -> x.insertLine(0), FULL);
        Check.due("32 bytes", Check.buffered(new AutoIndenter(), BYTES32).insertLine(0), 1);
        Check.refused("33 bytes", () -> Check.buffered(Check.some(), BYTES32 + "a"), x -> x.insertLine(0), FULL);
    }

    private static void replaceLine() {
        Check.says(5, "Replaces a line by the one in the text buffer, which stays; a pinned line stays pinned.",
                "Returns the indentation that the line had before");
        AutoIndenter x = Check.withLines("a", "", " ".repeat(40) + "b");
        x.pin(2);
        Check.put(x, "  c ");
        Check.due("replaceLine(0)", x.replaceLine(0), 0);
        Check.due("replaceLine(1), blank", x.replaceLine(1), 0);
        Check.due("replaceLine(2)", x.replaceLine(2), 40);
        Check.due("the lines", Check.allLines(x), "  c|  c|*  c|");
        Check.due("the text buffer stays", x.clear(), 4);
        Check.due("replaceLine(2) by nothing", x.replaceLine(2), 2);
        Check.due("the lines", Check.allLines(x), "  c|  c|*|");
        x = Check.copies(20, "a");
        Check.put(x, " b");
        Check.due("replaceLine(19) of 20", x.replaceLine(19), 0);
        Check.due("lines()", x.lines(), 20);
        Check.says(5, "BAD if there is no such line");
        noSuchLine("replaceLine", i -> y -> y.replaceLine(i));
        Check.says(5, "FULL if the text buffer is no line.");
        x = Check.some();
        Check.put(x, " ".repeat(40) + BYTES32);
        Check.due("the largest line", x.replaceLine(4), 3);
        Check.refused("41 spaces", () -> Check.buffered(Check.some(), " ".repeat(41) + "a"), y -> y.replaceLine(4), FULL);
        Check.refused("33 bytes", () -> Check.buffered(Check.some(), BYTES32 + "a"), y -> y.replaceLine(4), FULL);
    }

    private static void removeLine() {
        Check.says(6, "Removes a line.", "Returns the number of lines that are left");
        AutoIndenter x = Check.copies(20, "a");
        Check.put(x, "  b");
        x.replaceLine(19);
        x.pin(19);
        Check.due("removeLine(0), the first one", x.removeLine(0), 19);
        Check.due("the last line moves up", Check.line(x, 18), "*  b");
        Check.due("there is no line 19", x.length(19), BAD);
        Check.due("removeLine(18), the last one", x.removeLine(18), 18);
        Check.due("the line before it", Check.line(x, 17), "a");
        for (int left = 17; left >= 0; left--) {
            Check.due("removeLine(0)", x.removeLine(0), left);
        }
        Check.due("removeLine(0) of none", x.removeLine(0), BAD);
        Check.says(6, "BAD if there is no such line.");
        noSuchLine("removeLine", i -> y -> y.removeLine(i));
    }

    private static void split(String line, int k, String due) {
        AutoIndenter x = Check.withLines(line);
        x.pin(0);
        Check.due("splitLine of '" + line + "' at " + k, x.splitLine(0, k), 0);
        Check.due("the lines", Check.allLines(x), due);
    }

    private static void splitLine() {
        Check.says(7, "Splits a line.", "Its content from byte k on, without spaces at its beginning, becomes a new line"
                + " directly behind it, which is not pinned; the line keeps the bytes before, without spaces at their end.");
        split("ab", 1, "*a|b|");
        split("  a   b", 1, "*  a|b|");
        split("  a   b", 2, "*  a|b|");
        split("  a   b", 3, "*  a|b|");
        split("  a   b", 4, "*  a|b|");
        split(BYTES32, 1, "*a|" + BYTES32.substring(1) + "|");
        split(BYTES32, 31, "*" + BYTES32.substring(0, 31) + "|]|");
        split("a" + " ".repeat(30) + "b", 1, "*a|b|");
        split("a" + " ".repeat(30) + "b", 31, "*a|b|");
        split("a b c", 3, "*a b|c|");
        AutoIndenter x = Check.withLines("x", "a b", "  y");
        x.pin(2);
        Check.due("splitLine(1, 2)", x.splitLine(1, 2), 0);
        Check.due("the lines before and behind", Check.allLines(x), "x|a|b|*  y|");
    }

    private static void splitLineIndentation() {
        Check.says(7, "The new line gets the indentation 0 if it is protected, and otherwise its wanted indentation.",
                "Returns the indentation of the new line");
        AutoIndenter x = Check.withLines(" ".repeat(30) + Q3 + "a b" + Q3 + "c");
        x.setBase(9);
        Check.due("within a literal", x.splitLine(0, 5), 0);
        Check.due("it is protected", x.isProtected(1), 1);
        Check.due("within its rest", x.splitLine(1, 4), 9);
        Check.due("the lines", Check.allLines(x), " ".repeat(30) + Q3 + "a|b" + Q3 + "|         c|");
        x = Check.withLines(Q3, "   ab");
        x.setBase(9);
        Check.due("a protected line", x.splitLine(1, 1), 0);
        Check.due("the lines", Check.allLines(x), Q3 + "|   a|b|");
        x = Check.withLines(Q3 + "a");
        x.setBase(9);
        Check.due("the marks of a literal", x.splitLine(0, 2), 9);
        Check.due("they are none any more", Check.tokensOf(x, 1), "0+2:2");
        Check.due("directly behind the marks", Check.withLines(Q3 + "a").splitLine(0, 3), 0);
        x = Check.withLines(" ".repeat(40) + "(a");
        Check.pair(x, 0, "()", 0, 4, 1, 0);
        Check.due("the wanted indentation is at most 40", x.splitLine(0, 1), 40);
        x = Check.withLines("a b");
        Check.starter(x, 0, "b", 0, -4);
        x.setBase(15);
        Check.due("the wanted indentation is at least 0", x.splitLine(0, 1), 0);
        x = Check.withLines("a + b");
        Check.joiner(x, 0, "+", 0, 4);
        x.setBase(20);
        Check.due("the wanted indentation of a joiner", x.splitLine(0, 3), 36);
        x = Check.withLines("  f(ab)");
        Check.pair(x, 0, "()", 0, 4, 1, 2);
        Check.due("an aligned block loses its next token", x.splitLine(0, 2), 18);
        x = Check.withLines("  f(ab)");
        Check.pair(x, 0, "()", 0, 4, 1, 2);
        Check.due("the closing token", x.splitLine(0, 4), 3);
        x = Check.withLines("a#b");
        x.setBase(20);
        Check.due("a comment", x.splitLine(0, 1), 20);
    }

    private static void splitLineRefused() {
        Check.says(7, "BAD if there is no such line or byte, or k is 0");
        noSuchLine("splitLine", i -> y -> y.splitLine(i, 1));
        Supplier<AutoIndenter> maker = () -> Check.withLines("abc", "a", "", BYTES32);
        Check.due("splitLine(0, 2), the last byte", maker.get().splitLine(0, 2), 0);
        Check.refused("splitLine(0, 3)", maker, x -> x.splitLine(0, 3), BAD);
        Check.refused("splitLine(0, 0)", maker, x -> x.splitLine(0, 0), BAD);
        Check.refused("splitLine(0, -1)", maker, x -> x.splitLine(0, -1), BAD);
        Check.refused("splitLine(1, 1), one byte", maker, x -> x.splitLine(1, 1), BAD);
        Check.refused("splitLine(1, 0), one byte", maker, x -> x.splitLine(1, 0), BAD);
        Check.refused("splitLine(2, 0), blank", maker, x -> x.splitLine(2, 0), BAD);
        Check.refused("splitLine(2, 1), blank", maker, x -> x.splitLine(2, 1), BAD);
        Check.due("splitLine(3, 31)", maker.get().splitLine(3, 31), 0);
        Check.refused("splitLine(3, 32)", maker, x -> x.splitLine(3, 32), BAD);
        Check.says(7, "FULL if there are 20 lines.");
        Check.due("splitLine of 19", Check.copies(19, "ab").splitLine(18, 1), 0);
        for (int i : new int[] {0, 19}) {
            Check.refused("splitLine of 20", () -> Check.copies(20, "ab"), x -> x.splitLine(i, 1), FULL);
            Check.refused("splitLine of 20, no byte", () -> Check.copies(20, "ab"), x -> x.splitLine(i, 2), BAD);
        }
    }

    private static void join(String first, String second, String due) {
        AutoIndenter x = Check.withLines(first, second, "z");
        Check.due("joinLines of '" + first + "' and '" + second + "'", x.joinLines(0), due.strip().length());
        Check.due("the lines", Check.allLines(x), due + "|z|");
    }

    private static void joinLines() {
        Check.says(8, "Joins a line with the next one.", "If both have content, the new content consists of both with one"
                + " space between them, and the indentation is that of the first one; otherwise the line is the one of both"
                + " that has content, with its indentation (or blank).", "Returns the length of the new content");
        join("a", "b", "a b");
        join("  a", "     b", "  a b");
        join("a", " ".repeat(40) + "b", "a b");
        join(" ".repeat(40) + "a", "b", " ".repeat(40) + "a b");
        join("", "   b", "   b");
        join("   a", "", "   a");
        join("", "", "");
        join("", " ".repeat(40) + BYTES32, " ".repeat(40) + BYTES32);
        join(" ".repeat(40) + BYTES32, "", " ".repeat(40) + BYTES32);
        AutoIndenter x = Check.copies(20, "a");
        Check.due("joinLines(18) of 20", x.joinLines(18), 3);
        Check.due("lines()", x.lines(), 19);
        x = Check.withLines("  \"", "", "\"\"");
        x.joinLines(1);
        Check.due("joinLines(0) of quotation marks", x.joinLines(0), 4);
        Check.due("the tokens", Check.tokensOf(x, 0), "0+3:2 3+1:2");
    }

    private static void joinLinesPins() {
        Check.says(8, "It is pinned if the first one was.");
        String[] texts = {"a", ""};
        for (String first : texts) {
            for (String second : texts) {
                for (int pins = 0; pins < 4; pins++) {
                    AutoIndenter x = Check.withLines(first, second);
                    if ((pins & 1) != 0) {
                        x.pin(0);
                    }
                    if ((pins & 2) != 0) {
                        x.pin(1);
                    }
                    x.joinLines(0);
                    Check.due("'" + first + "' and '" + second + "' with pins " + pins, x.isPinned(0), pins & 1);
                }
            }
        }
    }

    private static void joinLinesRefused() {
        Check.says(8, "BAD if there is no such line, or no line behind it");
        noSuchLine("joinLines", i -> y -> y.joinLines(i));
        for (int count : new int[] {1, 2, 20}) {
            Check.refused("joinLines of the last of " + count, () -> Check.copies(count, "a"),
                    x -> x.joinLines(count - 1), BAD);
        }
        Check.due("joinLines of the last but one", Check.copies(2, "a").joinLines(0), 3);
        Check.says(8, "FULL if the new content would be longer than 32 bytes.");
        for (int n = 0; n <= 32; n++) {
            String first = "a".repeat(n);
            int fits = n == 0 ? 32 : 31 - n;
            if (fits > 0) {
                AutoIndenter x = Check.withLines(first, "b".repeat(fits));
                Check.due("joinLines of " + n + " and " + fits, x.joinLines(0), 32);
            }
            if (n > 0 && n < 32) {
                Check.refused("joinLines of " + n + " and " + (fits + 1),
                        () -> Check.withLines(first, "b".repeat(fits + 1)), x -> x.joinLines(0), FULL);
            }
        }
        Check.refused("joinLines of 32 and 1", () -> Check.withLines(BYTES32, "b"), x -> x.joinLines(0), FULL);
        Check.refused("joinLines of 32 and 32", () -> Check.withLines(BYTES32, BYTES32), x -> x.joinLines(0), FULL);
    }

    private static void shift() {
        Check.says(9, "Changes the indentation of all lines of a range that are not blank, protected and pinned ones"
                + " included.", "Returns how many lines in the range are not blank");
        AutoIndenter x = Check.withLines(" a", "  " + Q3, "   b", "", "    " + Q3, "     c");
        x.pin(0);
        x.pin(5);
        Check.due("shift(0, 6, -1)", x.shift(0, 6, -1), 5);
        Check.due("the lines", Check.allLines(x), "*a| " + Q3 + "|  b||   " + Q3 + "|*    c|");
        Check.due("shift(0, 6, 36), as far as it goes", x.shift(0, 6, 36), 5);
        Check.due("indentation(5)", x.indentation(5), 40);
        Check.due("indentation(3), blank", x.indentation(3), 0);
        Check.due("shift(0, 6, 0)", x.shift(0, 6, 0), 5);
        Check.due("shift(3, 4, 40), a blank line", x.shift(3, 4, 40), 0);
        Check.due("shift(3, 4, -40), a blank line", x.shift(3, 4, -40), 0);
        Check.due("shift(6, 6, 40), no lines", x.shift(6, 6, 40), 0);
        Check.due("shift(0, 0, 40), no lines", x.shift(0, 0, 40), 0);
        Check.due("shift(5, 6, -40), the last line", x.shift(5, 6, -40), 1);
        Check.due("indentation(5)", x.indentation(5), 0);
        Check.due("shift(5, 6, 40)", x.shift(5, 6, 40), 1);
        Check.due("indentation(5)", x.indentation(5), 40);
        Check.due("indentation(4)", x.indentation(4), 39);
        Check.due("shift of no lines at all", new AutoIndenter().shift(0, 0, 1), 0);
        Check.due("shift of 20 lines", Check.copies(20, "a").shift(0, 20, 40), 20);
    }

    private static void shiftRefused() {
        Check.says(9, "BAD if an argument is out of range");
        for (int count : new int[] {0, 1, 19, 20}) {
            Supplier<AutoIndenter> maker = () -> Check.copies(count, "a");
            Check.due("shift(n, n, 0) of " + count, maker.get().shift(count, count, 0), 0);
            Check.refused("from -1 of " + count, maker, x -> x.shift(-1, count, 0), BAD);
            Check.refused("to beyond " + count, maker, x -> x.shift(0, count + 1, 0), BAD);
            Check.refused("both beyond " + count, maker, x -> x.shift(count + 1, count + 1, 0), BAD);
            Check.refused("to before from, of " + count, maker, x -> x.shift(count, count - 1, 0), BAD);
            Check.refused("d 41 of " + count, maker, x -> x.shift(0, count, 41), BAD);
            Check.refused("d -41 of " + count, maker, x -> x.shift(0, count, -41), BAD);
            Check.refused("d 41 of no lines", maker, x -> x.shift(0, 0, 41), BAD);
        }
        Check.says(9, "STATE if some indentation would not be 0 to 40.");
        Supplier<AutoIndenter> maker = () -> Check.withLines("a", " ".repeat(20) + "b", " ".repeat(40) + Q3, "c");
        Check.refused("shift(0, 1, -1)", maker, x -> x.shift(0, 1, -1), STATE);
        Check.refused("shift(2, 3, 1)", maker, x -> x.shift(2, 3, 1), STATE);
        Check.refused("shift(1, 2, 21)", maker, x -> x.shift(1, 2, 21), STATE);
        Check.refused("shift(1, 2, -21)", maker, x -> x.shift(1, 2, -21), STATE);
        Check.due("shift(1, 2, 20)", maker.get().shift(1, 2, 20), 1);
        Check.due("shift(1, 2, -20)", maker.get().shift(1, 2, -20), 1);
        Check.refused("shift(0, 4, 1), one of four", maker, x -> x.shift(0, 4, 1), STATE);
        Check.refused("shift(0, 2, -1), the first one", maker, x -> x.shift(0, 2, -1), STATE);
        Check.refused("shift(1, 4, -1), a protected one", maker, x -> x.shift(1, 4, -1), STATE);
        Check.refused("shift(3, 4, -40)", maker, x -> x.shift(3, 4, -40), STATE);
        Check.refused("shift(2, 3, 40)", maker, x -> x.shift(2, 3, 40), STATE);
        Check.refused("a pinned one", () -> {
            AutoIndenter x = Check.withLines("a", " b");
            x.pin(0);
            return x;
        }, x -> x.shift(0, 2, -1), STATE);
    }

    private static void pin() {
        Check.says(10, "Pins a line, or unpins it if it is pinned.", "Returns 1 if it is pinned then, otherwise 0");
        for (int count : new int[] {1, 20}) {
            AutoIndenter x = Check.copies(count, count == 1 ? "" : "a");
            for (int i : new int[] {0, count - 1}) {
                Check.due("pin", x.pin(i), 1);
                Check.due("isPinned", x.isPinned(i), 1);
                Check.due("pin again", x.pin(i), 0);
                Check.due("isPinned", x.isPinned(i), 0);
            }
        }
        AutoIndenter x = Check.withLines("a", "b", "c");
        x.pin(1);
        Check.due("the other lines are not pinned", x.isPinned(0) + x.isPinned(2), 0);
        Check.says(10, "BAD if there is no such line.");
        noSuchLine("pin", i -> y -> y.pin(i));
    }

    private static void reindent() {
        Check.says(11, "Indents a range of lines anew.", "Returns how many lines have got another indentation");
        AutoIndenter x = Check.copies(20, "a");
        x.setBase(20);
        Check.due("reindent(0, 0)", x.reindent(0, 0), 0);
        Check.due("reindent(20, 20)", x.reindent(20, 20), 0);
        Check.due("reindent(0, 1)", x.reindent(0, 1), 1);
        Check.due("reindent(19, 20)", x.reindent(19, 20), 1);
        Check.due("indentation(18)", x.indentation(18), 0);
        Check.due("indentation(19)", x.indentation(19), 20);
        Check.due("reindent(0, 20)", x.reindent(0, 20), 18);
        Check.due("reindent(0, 20) again", x.reindent(0, 20), 0);
        Check.due("reindent(0, 0) of none", new AutoIndenter().reindent(0, 0), 0);
        x = Check.withLines("", "a", Q3, "b", Q3);
        x.setBase(1);
        x.pin(1);
        Check.due("blank, pinned and protected lines", x.reindent(0, 5), 1);
        Check.says(11, "BAD if an argument is out of range.");
        for (int count : new int[] {0, 1, 19, 20}) {
            Supplier<AutoIndenter> maker = () -> {
                AutoIndenter y = Check.copies(count, "a");
                y.setBase(1);
                return y;
            };
            Check.refused("from -1 of " + count, maker, y -> y.reindent(-1, count), BAD);
            Check.refused("to beyond " + count, maker, y -> y.reindent(0, count + 1), BAD);
            Check.refused("both beyond " + count, maker, y -> y.reindent(count + 1, count + 1), BAD);
            Check.refused("to before from, of " + count, maker, y -> y.reindent(count, count - 1), BAD);
        }
    }

    private static void linesAndIndentation() {
        Check.says(12, "Returns the number of lines.", "Returns it, 0 to 20.");
        for (int count = 0; count <= 20; count++) {
            Check.due("lines() of " + count, Check.copies(count, "").lines(), count);
        }
        Check.due("lines() of 21", Check.copies(21, "").lines(), 20);
        Check.says(13, "Returns the indentation of a line.", "Returns the indentation");
        for (int indent = 0; indent <= 40; indent++) {
            Check.due("indentation(0)", Check.withLines(" ".repeat(indent) + "a").indentation(0), indent);
        }
        AutoIndenter x = Check.copies(20, "a");
        Check.put(x, "  b");
        x.replaceLine(19);
        Check.due("indentation(19)", x.indentation(19), 2);
        Check.says(13, "BAD if there is no such line.");
        noSuchLine("indentation", i -> y -> y.indentation(i));
    }

    private static void lengthAndByteAt() {
        Check.says(14, "Returns the length of the content of a line.", "Returns the length, 0 to 32");
        for (int n = 0; n <= 32; n++) {
            Check.due("length(0)", Check.withLines(" " + "a".repeat(n)).length(0), n);
        }
        Check.says(14, "BAD if there is no such line.");
        noSuchLine("length", i -> y -> y.length(i));
        Check.says(15, "Returns a byte of the content of a line.", "Returns the byte");
        AutoIndenter x = Check.withLines("a", "", "   " + BYTES32);
        for (int k = 0; k < 32; k++) {
            Check.due("byteAt(2, " + k + ")", x.byteAt(2, k), BYTES32.charAt(k));
        }
        Check.says(15, "NONE if the content has not so many bytes");
        Check.due("byteAt(2, 32)", x.byteAt(2, 32), NONE);
        Check.due("byteAt(2, MAX)", x.byteAt(2, Integer.MAX_VALUE), NONE);
        Check.due("byteAt(0, 1)", x.byteAt(0, 1), NONE);
        Check.due("byteAt(1, 0), blank", x.byteAt(1, 0), NONE);
        x.splitLine(2, 1);
        Check.due("byteAt(2, 1) behind splitLine", x.byteAt(2, 1), NONE);
        Check.says(15, "BAD if there is no such line, or k is negative.");
        noSuchLine("byteAt(.., 0)", i -> y -> y.byteAt(i, 0));
        noSuchLine("byteAt(.., 99)", i -> y -> y.byteAt(i, 99));
        Check.refused("byteAt(0, -1)", Check::some, y -> y.byteAt(0, -1), BAD);
        Check.refused("byteAt(1, -1), blank", Check::some, y -> y.byteAt(1, -1), BAD);
    }

    private static void isProtected() {
        Check.says(16, "Tells whether a line is protected.", "Returns 1 if it is, otherwise 0");
        AutoIndenter x = Check.copies(20, "a");
        Check.due("isProtected(19)", x.isProtected(19), 0);
        Check.put(x, Q3);
        x.replaceLine(0);
        Check.due("isProtected(0), where it begins", x.isProtected(0), 0);
        Check.due("isProtected(1)", x.isProtected(1), 1);
        Check.due("isProtected(19)", x.isProtected(19), 1);
        x.replaceLine(18);
        Check.due("isProtected(18), where it ends", x.isProtected(18), 1);
        Check.due("isProtected(19), behind it", x.isProtected(19), 0);
        x.clear();
        x.replaceLine(1);
        Check.due("isProtected(1), blank", x.isProtected(1), 0);
        x.removeLine(0);
        Check.due("isProtected(1), the beginning is removed", x.isProtected(1), 0);
        Check.due("isProtected(18), the end begins one", x.isProtected(18), 1);
        Check.says(16, "BAD if there is no such line.");
        noSuchLine("isProtected", i -> y -> y.isProtected(i));
    }

    private static void isPinned() {
        Check.says(17, "Tells whether a line is pinned.", "Returns 1 if it is, otherwise 0");
        AutoIndenter x = Check.copies(20, "a");
        x.pin(0);
        x.pin(19);
        for (int i = 0; i < 20; i++) {
            Check.due("isPinned(" + i + ")", x.isPinned(i), i == 0 || i == 19 ? 1 : 0);
        }
        Check.says(17, "BAD if there is no such line.");
        noSuchLine("isPinned", i -> y -> y.isPinned(i));
    }
}
