import java.util.function.Supplier;

/** The section "Terms": return values, lines, the text buffer, settings and changes, each at its edges. */
public final class TermsOfLinesTest {
    private static final int BAD = AutoIndenter.BAD, STATE = AutoIndenter.STATE, FULL = AutoIndenter.FULL;
    private static final int NONE = AutoIndenter.NONE;
    private static final int MIN = Integer.MIN_VALUE, MAX = Integer.MAX_VALUE;
    private static final String BYTES32 = "abcdefghijklmnopqrstuvwxyz(){}[]";
    private static final String LONG = BYTES32 + "x";
    private static final String DEEP = " ".repeat(41) + "x";

    public static void main(String[] args) {
        errorCodes();
        extremeArguments();
        firstCode();
        refusedCallsChangeNothing();
        noneAndErrors();
        indices();
        sets();
        twentyLines();
        indentationAndContent();
        contentWithoutOuterSpaces();
        blankLines();
        columns();
        notPinnedAtFirst();
        bufferOf72();
        bufferAsLine();
        bufferThatIsNoLine();
        step();
        base();
        commentByte();
        changesThatChangeNothing();
        callsThatAreNoChanges();
        whatAStateHolds();
        eightStates();
        Check.finish();
    }

    private static void errorCodes() {
        Check.says(0, "BAD (-1): an argument is out of range, or there is no such line, token, rule, block or image");
        Check.refused("indentation(5)", Check::some, x -> x.indentation(5), -1);
        Check.refused("tokenAt(0, 2)", Check::some, x -> x.tokenAt(0, 2), -1);
        Check.refused("dropRule(1)", Check::some, x -> x.dropRule(1), -1);
        Check.refused("blockRule(5, 1)", Check::some, x -> x.blockRule(5, 1), -1);
        Check.refused("back(0)", Check::some, x -> x.back(0), -1);
        Check.says(0, "STATE (-2): the call is not possible at present, as the method says");
        Check.refused("shift(3, 4, 39)", Check::some, x -> x.shift(3, 4, 39), -2);
        Check.refused("undo()", AutoIndenter::new, x -> x.undo(), -2);
        Check.says(0, "FULL (-3): a limit would be exceeded");
        Check.refused("type(97)", Check::full, x -> x.type(97), -3);
        Check.refused("insertLine(20)", Check::full, x -> x.insertLine(20), -3);
        Check.refused("splitLine(0, 1)", Check::full, x -> x.splitLine(0, 1), -3);
    }

    private static void extremeArguments() {
        Check.says(0, "an argument is out of range");
        for (int v : new int[] {MIN, MIN + 1, -100, 100, MAX - 1, MAX}) {
            for (Supplier<AutoIndenter> maker : java.util.List.<Supplier<AutoIndenter>>of(
                    AutoIndenter::new, Check::some, Check::full)) {
                lineArguments(v, maker);
                otherArguments(v, maker);
            }
        }
    }

    private static void bad(String call, Supplier<AutoIndenter> maker, Check.Call run) {
        Check.refused(call, maker, run, BAD);
    }

    private static void lineArguments(int v, Supplier<AutoIndenter> maker) {
        if (v != 100) {
            bad("type(" + v + ")", maker, x -> x.type(v));
        }
        bad("insertLine(" + v + ")", maker, x -> x.insertLine(v));
        bad("replaceLine(" + v + ")", maker, x -> x.replaceLine(v));
        bad("removeLine(" + v + ")", maker, x -> x.removeLine(v));
        bad("splitLine(" + v + ", 1)", maker, x -> x.splitLine(v, 1));
        bad("splitLine(0, " + v + ")", maker, x -> x.splitLine(0, v));
        bad("joinLines(" + v + ")", maker, x -> x.joinLines(v));
        bad("shift(" + v + ", 0, 0)", maker, x -> x.shift(v, 0, 0));
        bad("shift(0, " + v + ", 0)", maker, x -> x.shift(0, v, 0));
        bad("shift(0, 0, " + v + ")", maker, x -> x.shift(0, 0, v));
        bad("shift(" + v + ", " + v + ", 0)", maker, x -> x.shift(v, v, 0));
        bad("pin(" + v + ")", maker, x -> x.pin(v));
        bad("reindent(" + v + ", 0)", maker, x -> x.reindent(v, 0));
        bad("reindent(0, " + v + ")", maker, x -> x.reindent(0, v));
        bad("reindent(" + v + ", " + v + ")", maker, x -> x.reindent(v, v));
        bad("indentation(" + v + ")", maker, x -> x.indentation(v));
        bad("length(" + v + ")", maker, x -> x.length(v));
        bad("byteAt(" + v + ", 0)", maker, x -> x.byteAt(v, 0));
        bad("isProtected(" + v + ")", maker, x -> x.isProtected(v));
        bad("isPinned(" + v + ")", maker, x -> x.isPinned(v));
        bad("wanted(" + v + ")", maker, x -> x.wanted(v));
        bad("reason(" + v + ")", maker, x -> x.reason(v));
        bad("decidingRule(" + v + ")", maker, x -> x.decidingRule(v));
    }

    private static void otherArguments(int v, Supplier<AutoIndenter> maker) {
        bad("setStep(" + v + ")", maker, x -> x.setStep(v));
        bad("setBase(" + v + ")", maker, x -> x.setBase(v));
        bad("setComment(" + v + ")", maker, x -> x.setComment(v));
        bad("pair with r = " + v, maker, x -> x.pair(v, 0, 0, 0, 0));
        bad("pair with precedence " + v, maker, x -> x.pair(0, v, 0, 0, 0));
        bad("pair with steps " + v, maker, x -> x.pair(0, 0, v, 0, 0));
        bad("pair with mode " + v, maker, x -> x.pair(0, 0, 0, v, 0));
        bad("pair with closing mode " + v, maker, x -> x.pair(0, 0, 0, 0, v));
        bad("starter with r = " + v, maker, x -> x.starter(v, 0, 0));
        bad("starter with precedence " + v, maker, x -> x.starter(0, v, 0));
        bad("starter with steps " + v, maker, x -> x.starter(0, 0, v));
        bad("joiner with r = " + v, maker, x -> x.joiner(v, 0, 0));
        bad("joiner with precedence " + v, maker, x -> x.joiner(0, v, 0));
        bad("joiner with steps " + v, maker, x -> x.joiner(0, 0, v));
        bad("dropRule(" + v + ")", maker, x -> x.dropRule(v));
        bad("changesWith(" + v + ", 0)", maker, x -> x.changesWith(v, 0));
        bad("changesWith(1, " + v + ")", maker, x -> x.changesWith(1, v));
        bad("tokens(" + v + ")", maker, x -> x.tokens(v));
        bad("tokenAt(" + v + ", 0)", maker, x -> x.tokenAt(v, 0));
        bad("tokenAt(0, " + v + ")", maker, x -> x.tokenAt(0, v));
        bad("tokenLength(" + v + ", 0)", maker, x -> x.tokenLength(v, 0));
        bad("tokenLength(0, " + v + ")", maker, x -> x.tokenLength(0, v));
        bad("tokenKind(" + v + ", 0)", maker, x -> x.tokenKind(v, 0));
        bad("tokenKind(0, " + v + ")", maker, x -> x.tokenKind(0, v));
        bad("openedBy(" + v + ", 0)", maker, x -> x.openedBy(v, 0));
        bad("openedBy(0, " + v + ")", maker, x -> x.openedBy(0, v));
        bad("closedBy(" + v + ", 0)", maker, x -> x.closedBy(v, 0));
        bad("closedBy(0, " + v + ")", maker, x -> x.closedBy(0, v));
        bad("depth(" + v + ")", maker, x -> x.depth(v));
        bad("blockRule(" + v + ", 0)", maker, x -> x.blockRule(v, 0));
        bad("blockRule(1, " + v + ")", maker, x -> x.blockRule(1, v));
        bad("blockOpening(" + v + ", 0)", maker, x -> x.blockOpening(v, 0));
        bad("blockOpening(1, " + v + ")", maker, x -> x.blockOpening(1, v));
        bad("contentColumn(" + v + ", 0)", maker, x -> x.contentColumn(v, 0));
        bad("contentColumn(1, " + v + ")", maker, x -> x.contentColumn(1, v));
        bad("keep(" + v + ")", maker, x -> x.keep(v));
        bad("back(" + v + ")", maker, x -> x.back(v));
        bad("draw(1, " + v + ")", maker, x -> x.draw(1, v));
    }

    private static void firstCode() {
        Check.says(0, "If several of them apply to a call, the one that stands first in the description of its result"
                + " is returned.");
        Supplier<AutoIndenter> tooLong = () -> Check.buffered(Check.some(), LONG);
        Supplier<AutoIndenter> both = () -> Check.buffered(Check.full(), DEEP);
        Check.refused("type(31), full", Check::full, x -> x.type(31), BAD);
        Check.refused("type(127), full", Check::full, x -> x.type(127), BAD);
        Check.refused("insertLine(6), no line", tooLong, x -> x.insertLine(6), BAD);
        Check.refused("insertLine(-1), no line", tooLong, x -> x.insertLine(-1), BAD);
        Check.refused("insertLine(21), 20 lines", Check::full, x -> x.insertLine(21), BAD);
        Check.refused("insertLine(21), 20 lines and no line", both, x -> x.insertLine(21), BAD);
        Check.refused("insertLine(-1), 20 lines and no line", both, x -> x.insertLine(-1), BAD);
        Check.refused("replaceLine(5), no line", tooLong, x -> x.replaceLine(5), BAD);
        Check.refused("replaceLine(-1), no line", tooLong, x -> x.replaceLine(-1), BAD);
        Check.refused("splitLine(20, 1), 20 lines", Check::full, x -> x.splitLine(20, 1), BAD);
        Check.refused("splitLine(0, 5), 20 lines", Check::full, x -> x.splitLine(0, 5), BAD);
        Check.refused("splitLine(0, 0), 20 lines", Check::full, x -> x.splitLine(0, 0), BAD);
        Supplier<AutoIndenter> longLast = () -> Check.withLines(BYTES32, BYTES32);
        Check.refused("joinLines(1), a long last line", longLast, x -> x.joinLines(1), BAD);
        Check.refused("shift(0, 21, 1), too far", Check::full, x -> x.shift(0, 21, 1), BAD);
        Check.refused("shift(-1, 20, 1), too far", Check::full, x -> x.shift(-1, 20, 1), BAD);
        Check.refused("shift(0, 20, 41), too far", Check::full, x -> x.shift(0, 20, 41), BAD);
        Check.refused("shift(0, 20, -41), too far", Check::full, x -> x.shift(0, 20, -41), BAD);
        Supplier<AutoIndenter> quoted = () -> Check.buffered(Check.some(), "\"");
        Check.refused("pair(12, ..), wrong text", quoted, x -> x.pair(12, 0, 0, 0, 0), BAD);
        Check.refused("pair(.., 3), wrong text", quoted, x -> x.pair(0, 0, 0, 0, 3), BAD);
        Check.refused("starter(0, 0, 5), wrong text", quoted, x -> x.starter(0, 0, 5), BAD);
        Check.refused("joiner(0, 0, -5), wrong text", quoted, x -> x.joiner(0, 0, -5), BAD);
    }

    private static void refusedCallsChangeNothing() {
        Check.says(0, "A call that returns an error code, or -10 or less, changes nothing.");
        Supplier<AutoIndenter> tooLong = () -> Check.buffered(Check.some(), LONG);
        Supplier<AutoIndenter> tooDeep = () -> Check.buffered(Check.some(), DEEP);
        Check.refused("insertLine(2), 33 bytes", tooLong, x -> x.insertLine(2), FULL);
        Check.refused("insertLine(2), 41 spaces", tooDeep, x -> x.insertLine(2), FULL);
        Check.refused("replaceLine(2), 33 bytes", tooLong, x -> x.replaceLine(2), FULL);
        Check.refused("replaceLine(2), 41 spaces", tooDeep, x -> x.replaceLine(2), FULL);
        Check.refused("insertLine(0), 20 lines", Check::full, x -> x.insertLine(0), FULL);
        Check.refused("splitLine(17, 2), 20 lines", Check::full, x -> x.splitLine(17, 2), FULL);
        Check.refused("joinLines(0), 65 bytes", () -> Check.withLines(BYTES32, BYTES32), x -> x.joinLines(0), FULL);
        Check.refused("shift(0, 20, 1), one line too far", Check::full, x -> x.shift(0, 20, 1), STATE);
        Check.refused("shift(0, 20, -1), one line too far", Check::full, x -> x.shift(0, 20, -1), STATE);
        Check.refused("undo()", AutoIndenter::new, x -> x.undo(), STATE);
        Supplier<AutoIndenter> third = () -> Check.buffered(Check.some(), "a b c");
        Check.refused("pair of three texts", third, x -> x.pair(0, 1, 1, 1, 1), -14);
        Check.refused("starter of three texts", third, x -> x.starter(3, 1, 1), -12);
        Check.refused("joiner of three texts", third, x -> x.joiner(11, 1, 1), -12);
        Supplier<AutoIndenter> nothing = () -> Check.buffered(Check.some(), "");
        Check.refused("pair of nothing", nothing, x -> x.pair(0, 1, 1, 1, 1), -10);
        Check.refused("starter of nothing", nothing, x -> x.starter(3, 1, 1), -10);
        Check.refused("joiner of nothing", nothing, x -> x.joiner(11, 1, 1), -10);
    }

    private static void noneAndErrors() {
        Check.says(0, "NONE (-9) is not an error code: it means that there is no such value, and is returned only if no"
                + " error code applies.");
        AutoIndenter x = Check.withLines("", "\"s\"", "\"\"\"", "p");
        Check.due("byteAt(0, 0), blank", x.byteAt(0, 0), NONE);
        Check.due("byteAt(0, -1), blank", x.byteAt(0, -1), BAD);
        Check.due("byteAt(4, 99)", x.byteAt(4, 99), BAD);
        Check.due("byteAt(-1, 99)", x.byteAt(-1, 99), BAD);
        Check.due("commonestByte(0), no tokens of the kinds 0 and 1", x.commonestByte(0), NONE);
        Check.due("commonestByte(-1), no tokens of the kinds 0 and 1", x.commonestByte(-1), BAD);
        Check.due("wanted(0), blank", x.wanted(0), NONE);
        Check.due("wanted(3), protected", x.wanted(3), NONE);
        Check.due("wanted(4)", x.wanted(4), BAD);
        Check.due("openedBy(1, 0)", x.openedBy(1, 0), NONE);
        Check.due("openedBy(1, 1)", x.openedBy(1, 1), BAD);
        Check.due("closedBy(1, 0)", x.closedBy(1, 0), NONE);
        Check.due("closedBy(1, -1)", x.closedBy(1, -1), BAD);
    }

    private static void indices() {
        Check.says(0, "All indices begin with 0.");
        AutoIndenter x = Check.withLines("  (b", "c");
        Check.due("pair of rule 0", Check.pair(x, 0, "()", 0, 0, 0, 0), 0);
        Check.due("indentation(0)", x.indentation(0), 2);
        Check.due("byteAt(0, 0)", x.byteAt(0, 0), '(');
        Check.due("tokenAt(0, 0)", x.tokenAt(0, 0), 0);
        Check.due("blockRule(1, 0)", x.blockRule(1, 0), 0);
        Check.due("commonestByte(0)", x.commonestByte(0), '(');
        Check.due("keep(0)", x.keep(0), 0);
        Check.due("back(0)", x.back(0), 2);
    }

    private static void sets() {
        Check.says(0, "Sets of lines are bit masks: bit i stands for line i.");
        for (int i = 0; i < 20; i++) {
            AutoIndenter x = Check.copies(20, "a");
            x.shift(i, i + 1, 1);
            Check.due("wouldChange(), line " + i, x.wouldChange(), 1 << i);
        }
    }

    private static void twentyLines() {
        Check.says(0, "There are at most 20 lines.");
        for (int i : new int[] {0, 7, 19}) {
            AutoIndenter x = Check.copies(19, "a b");
            Check.due("the 20th line", x.insertLine(i), 20);
            Check.due("lines()", x.lines(), 20);
            Check.refused("the 21st line", () -> Check.copies(20, "a b"), y -> y.insertLine(i), FULL);
            x = Check.copies(19, "a b");
            Check.due("splitLine of 19 lines", x.splitLine(Math.min(i, 18), 1), 0);
            Check.due("lines()", x.lines(), 20);
            Check.refused("splitLine of 20 lines", () -> Check.copies(20, "a b"), y -> y.splitLine(i, 1), FULL);
        }
        AutoIndenter x = Check.copies(19, "a");
        Check.due("draw(1, 12) of 19 lines", x.draw(1, 12), 1);
        Check.due("lines()", x.lines(), 20);
        Check.due("draw(1, 12) of 20 lines", x.draw(1, 12), 0);
        Check.due("lines()", x.lines(), 20);
    }

    private static void indentationAndContent() {
        Check.says(0, "A line has an indentation, which is the number of spaces before its content, 0 to 40");
        AutoIndenter x = Check.withLines("a", " ".repeat(40) + "a");
        Check.due("the least indentation", x.indentation(0), 0);
        Check.due("the greatest indentation", x.indentation(1), 40);
        Check.refused("indentation 41", () -> Check.buffered(Check.some(), DEEP), y -> y.insertLine(0), FULL);
        Check.says(0, "a content of at most 32 bytes from 32 to 126");
        x = Check.withLines("~", BYTES32, "!" + " ".repeat(30) + "~");
        Check.due("one byte", x.length(0), 1);
        Check.due("32 bytes", x.length(1), 32);
        Check.due("the 32nd byte", x.byteAt(1, 31), ']');
        Check.due("the least byte but the space", x.byteAt(2, 0), 33);
        Check.due("the least byte", x.byteAt(2, 1), 32);
        Check.due("the greatest byte", x.byteAt(2, 31), 126);
        Check.refused("33 bytes", () -> Check.buffered(Check.some(), LONG), y -> y.insertLine(0), FULL);
    }

    private static void contentWithoutOuterSpaces() {
        Check.says(0, "which neither begins nor ends with a space");
        AutoIndenter x = Check.withLines("   a  b   ", " c ");
        Check.due("insertLine", Check.allLines(x), "   a  b| c|");
        Check.due("splitLine(0, 1)", x.splitLine(0, 1), 0);
        Check.due("splitLine", Check.allLines(x), "   a|b| c|");
        Check.due("joinLines(1)", x.joinLines(1), 3);
        Check.due("joinLines", Check.allLines(x), "   a|b c|");
        Check.put(x, "  d ");
        x.replaceLine(0);
        Check.due("replaceLine", Check.allLines(x), "  d|b c|");
        x = Check.withLines("", "e", "");
        x.joinLines(0);
        x.joinLines(0);
        Check.due("joinLines with blank lines", Check.allLines(x), "e|");
    }

    private static void blankLines() {
        Check.says(0, "A line without content is blank; its indentation is 0.");
        AutoIndenter x = Check.withLines("", " ", " ".repeat(40), " ".repeat(41), " ".repeat(72), "    a");
        for (int i = 0; i < 5; i++) {
            Check.due("indentation(" + i + ")", x.indentation(i), 0);
            Check.due("length(" + i + ")", x.length(i), 0);
        }
        Check.put(x, "     ");
        Check.due("replaceLine(5) by spaces", x.replaceLine(5), 4);
        Check.due("indentation(5)", x.indentation(5), 0);
        x.setBase(20);
        Check.due("reindent(0, 6)", x.reindent(0, 6), 0);
        Check.due("shift(0, 6, 40)", x.shift(0, 6, 40), 0);
        Check.due("joinLines(0)", x.joinLines(0), 0);
        Check.due("all are blank", Check.allLines(x), "|||||");
    }

    private static void columns() {
        Check.says(0, "The column of a byte of the content is the indentation plus its index in the content.");
        AutoIndenter x = Check.withLines("(a", "b");
        Check.pair(x, 0, "()", 0, 0, 1, 2);
        Check.due("the least column of an opening token", x.blockOpening(1, 0), 0);
        Check.due("the least content column by a token", x.contentColumn(1, 0), 1);
        x.shift(0, 1, 40);
        Check.due("blockOpening(1, 0)", x.blockOpening(1, 0), 40);
        Check.due("contentColumn(1, 0)", x.contentColumn(1, 0), 41);
        x = Check.withLines(" ".repeat(40) + "a".repeat(30) + "(a", "b");
        Check.pair(x, 0, "()", 0, 0, 1, 2);
        Check.due("the greatest column of an opening token, but one", x.blockOpening(1, 0), 70);
        Check.due("the greatest content column", x.contentColumn(1, 0), 71);
        x = Check.withLines(" ".repeat(40) + "a".repeat(31) + "(", "b");
        Check.pair(x, 0, "()", 0, 0, 1, 2);
        Check.due("the greatest column of an opening token", x.blockOpening(1, 0), 71);
        Check.due("nothing follows it", x.contentColumn(1, 0), 40);
    }

    private static void notPinnedAtFirst() {
        Check.says(0, "A line can be pinned; lines are not pinned at first.");
        AutoIndenter x = Check.copies(2, "a b");
        x.pin(0);
        x.pin(1);
        x.insertLine(0);
        x.insertLine(2);
        x.insertLine(4);
        Check.due("inserted lines", Check.allLines(x), "a b|*a b|a b|*a b|a b|");
        x.splitLine(3, 1);
        x.splitLine(1, 1);
        Check.due("split lines", Check.allLines(x), "a b|*a|b|a b|*a|b|a b|");
        x.draw(1, 2);
        Check.due("drawn lines", x.isPinned(7) + x.isPinned(8), 0);
        x.pin(8);
        x.removeLine(8);
        x.draw(1, 1);
        Check.due("a drawn line where a pinned one was", x.isPinned(8), 0);
        x.pin(8);
        x.removeLine(8);
        x.insertLine(8);
        Check.due("an inserted line where a pinned one was", x.isPinned(8), 0);
        x.pin(0);
        x.pin(8);
        Check.due("the first and the last line can be pinned", x.isPinned(0) + x.isPinned(8), 2);
    }

    private static void bufferOf72() {
        Check.says(0, "The text buffer holds at most 72 bytes from 32 to 126.");
        AutoIndenter x = new AutoIndenter();
        for (int n = 1; n <= 72; n++) {
            Check.due("byte " + n, x.type(n % 2 == 0 ? 32 : 126), n);
        }
        Check.due("byte 73", x.type(32), FULL);
        Check.due("byte 73", x.type(126), FULL);
        Check.due("clear()", x.clear(), 72);
        Check.due("byte 1 again", x.type(97), 1);
    }

    private static void lineOf(String text, int indent, String content) {
        AutoIndenter x = Check.withLines(text);
        Check.due("the indentation of '" + text + "'", x.indentation(0), indent);
        Check.due("the content of '" + text + "'", Check.content(x, 0), content);
    }

    private static void bufferAsLine() {
        Check.says(0, "the number of its spaces before the first other byte is the indentation, and the bytes from there"
                + " to the last byte that is no space are the content");
        lineOf("a", 0, "a");
        lineOf(" a", 1, "a");
        lineOf("a ", 0, "a");
        lineOf("  a  b  ", 2, "a  b");
        lineOf(" ".repeat(40) + "~", 40, "~");
        lineOf(" ".repeat(40) + BYTES32, 40, BYTES32);
        lineOf(BYTES32 + " ".repeat(40), 0, BYTES32);
        lineOf("a" + " ".repeat(71), 0, "a");
        lineOf(" ".repeat(40) + "a" + " ".repeat(31), 40, "a");
        lineOf("a" + " ".repeat(30) + "b", 0, "a" + " ".repeat(30) + "b");
        Check.says(0, "if there are only spaces or nothing, the line is blank");
        lineOf("", 0, "");
        lineOf(" ", 0, "");
        lineOf(" ".repeat(41), 0, "");
        lineOf(" ".repeat(72), 0, "");
    }

    private static void noLine(String text) {
        Supplier<AutoIndenter> maker = () -> Check.buffered(Check.some(), text);
        Check.refused("insertLine of '" + text + "'", maker, x -> x.insertLine(0), FULL);
        Check.refused("replaceLine by '" + text + "'", maker, x -> x.replaceLine(0), FULL);
    }

    private static void bufferThatIsNoLine() {
        Check.says(0, "It is no line if the indentation would be above 40, or the content longer than 32 bytes.");
        noLine(" ".repeat(41) + "a");
        noLine(" ".repeat(41) + "a ");
        noLine(" ".repeat(71) + "a");
        noLine(LONG);
        noLine(LONG + "  ");
        noLine("  " + LONG);
        noLine("a" + " ".repeat(31) + "b");
        noLine("a" + " ".repeat(70) + "b");
        noLine(" ".repeat(39) + LONG);
        noLine(" ".repeat(41) + "a".repeat(31));
        noLine("a".repeat(72));
    }

    private static void step() {
        Check.says(0, "The step is 1 to 8 (4 at first)");
        Check.due("the step at first", new AutoIndenter().setStep(1), 4);
        AutoIndenter x = Check.withLines("(", "a");
        Check.pair(x, 0, "()", 0, 1, 0, 0);
        Check.due("wanted(1) with the step at first", x.wanted(1), 4);
        for (int v = 1; v <= 8; v++) {
            x.setStep(v);
            Check.due("wanted(1) with step " + v, x.wanted(1), v);
        }
        Check.refused("setStep(0)", Check::some, y -> y.setStep(0), BAD);
        Check.refused("setStep(9)", Check::some, y -> y.setStep(9), BAD);
    }

    private static void base() {
        Check.says(0, "the base is 0 to 20 (0 at first)");
        Check.due("the base at first", new AutoIndenter().setBase(1), 0);
        AutoIndenter x = Check.withLines("a");
        Check.due("wanted(0) with the base at first", x.wanted(0), 0);
        for (int v = 0; v <= 20; v++) {
            x.setBase(v);
            Check.due("wanted(0) with base " + v, x.wanted(0), v);
        }
        Check.refused("setBase(-1)", Check::some, y -> y.setBase(-1), BAD);
        Check.refused("setBase(21)", Check::some, y -> y.setBase(21), BAD);
    }

    private static void commentByte() {
        Check.says(0, "the comment byte is a byte from 33 to 126 that is no quotation mark, letter, digit or underscore"
                + " (35 at first), or there is none, given as 0");
        Check.due("the comment byte at first", new AutoIndenter().setComment(0), 35);
        String letters = "ABCDEFGHIJKLMNOPQRSTUVWXYZabcdefghijklmnopqrstuvwxyz0123456789_\"";
        AutoIndenter x = new AutoIndenter();
        int before = 35;
        for (int c = -2; c <= 130; c++) {
            boolean allowed = c == 0 || c >= 33 && c <= 126 && letters.indexOf(c) < 0;
            Check.due("setComment(" + c + ")", x.setComment(c), allowed ? before : BAD);
            before = allowed ? c : before;
        }
        x = Check.withLines("a ! # ~");
        Check.due("tokens(0) with the comment byte at first", x.tokens(0), 2);
        x.setComment(33);
        Check.due("tokens(0) with the least comment byte", x.tokens(0), 1);
        x.setComment(126);
        Check.due("tokens(0) with the greatest comment byte", x.tokens(0), 3);
        x.setComment(0);
        Check.due("tokens(0) without a comment byte", x.tokens(0), 4);
    }

    /** Each call leaves all as it was and still records a state. */
    private static void changesThatChangeNothing() {
        Check.says(0, "insertLine(), replaceLine(), removeLine(), splitLine(), joinLines(), shift(), pin(), reindent(),"
                + " setStep(), setBase(), setComment(), pair(), starter(), joiner(), dropRule() and draw() are changes if"
                + " they return no error code and no number of -10 or less, also if everything is as before.");
        change("replaceLine by the same", Check.withLines("", "a"), x -> x.replaceLine(1), 0);
        change("joinLines of blank lines", Check.withLines("", ""), x -> x.joinLines(0), 0);
        change("shift by 0", Check.withLines("", "a"), x -> x.shift(0, 2, 0), 1);
        change("shift of blank lines", Check.withLines("", ""), x -> x.shift(0, 2, 40), 0);
        change("shift of no lines", Check.withLines("a", "b"), x -> x.shift(2, 2, -40), 0);
        change("reindent of well indented lines", Check.withLines("a", "b"), x -> x.reindent(0, 2), 0);
        change("reindent of no lines", Check.withLines("a", "b"), x -> x.reindent(2, 2), 0);
        change("setStep(4)", Check.withLines("a", "b"), x -> x.setStep(4), 4);
        change("setBase(0)", Check.withLines("a", "b"), x -> x.setBase(0), 0);
        change("setComment(35)", Check.withLines("a", "b"), x -> x.setComment(35), 35);
        change("insertLine", Check.withLines("a", "b"), x -> x.insertLine(0), 3);
        change("removeLine", Check.withLines("a", "b"), x -> x.removeLine(0), 1);
        change("splitLine", Check.withLines("a", "bc"), x -> x.splitLine(1, 1), 0);
        change("pin", Check.withLines("a", "b"), x -> x.pin(0), 1);
        change("draw", Check.withLines("a", "b"), x -> x.draw(0, 1), 1);
        AutoIndenter full = Check.copies(20, "a");
        Check.due("draw of 20 lines", full.draw(1, 1), 0);
        Check.due("undo() behind it", full.undo(), 7);
        Check.due("undo() once more", full.undo(), 6);
        Check.due("lines() behind both", full.lines(), 19);
        change("starter", Check.withLines("a", "b"), x -> x.starter(0, 0, 0), 0);
        change("joiner", Check.withLines("a", "b"), x -> x.joiner(0, 0, 0), 0);
        change("pair", Check.withLines("a", "()"), x -> x.pair(0, 0, 0, 0, 0), 0);
        sameRules();
    }

    /** The object has two remembered states before the call. */
    private static void change(String call, AutoIndenter x, Check.Call run, int due) {
        long before = x.digest();
        Check.due(call, run.on(x), due);
        Check.due("undo() behind " + call, x.undo(), 2);
        Check.due("digest() behind both", x.digest(), before);
    }

    private static void sameRules() {
        AutoIndenter x = Check.buffered(new AutoIndenter(), "a");
        Check.due("starter", x.starter(0, 0, 0), 0);
        Check.due("the same starter", x.starter(0, 0, 0), 1);
        Check.due("joiner", x.joiner(1, 0, 0), 0);
        Check.due("the same joiner", x.joiner(1, 0, 0), 1);
        Check.put(x, "a b");
        Check.due("pair", x.pair(2, 0, 0, 0, 0), 0);
        Check.due("the same pair", x.pair(2, 0, 0, 0, 0), 1);
        Check.due("dropRule(2)", x.dropRule(2), 2);
        for (int left = 6; left >= 0; left--) {
            Check.due("undo()", x.undo(), left);
        }
        Check.due("undo()", x.undo(), STATE);
    }

    private static void callsThatAreNoChanges() {
        Check.says(0, "are changes if they return no error code and no number of -10 or less");
        AutoIndenter x = Check.withLines("a ( b", "c");
        Check.pair(x, 0, "()", 0, 1, 0, 0);
        x.type(97);
        x.clear();
        x.keep(0);
        x.wouldChange();
        x.changesWith(1, 1);
        x.fewestChanges();
        x.bestStep();
        x.bestBase();
        x.commonestByte(0);
        x.digest();
        x.pair(0, 0, 0, 0, 0);
        x.starter(0, 0, 0);
        x.joiner(0, 0, 0);
        x.insertLine(3);
        x.shift(0, 1, -1);
        x.undo();
        Check.due("undo() behind calls that are no changes", x.undo(), 1);
        Check.due("lines()", x.lines(), 1);
    }

    private static void whatAStateHolds() {
        Check.says(0, "Each change records the state (lines, pins, rules and settings) before it.");
        AutoIndenter x = Check.some();
        long before = x.digest();
        String lines = Check.allLines(x);
        x.pin(0);
        x.removeLine(1);
        x.shift(0, 4, 7);
        x.dropRule(0);
        x.setStep(8);
        x.setBase(20);
        x.setComment(0);
        for (int n = 0; n < 7; n++) {
            x.undo();
        }
        Check.due("the lines and pins", Check.allLines(x), lines);
        Check.due("the step", x.setStep(4), 4);
        Check.due("the base", x.setBase(2), 2);
        Check.due("the comment byte", x.setComment(35), 35);
        Check.due("the rules", x.blockRule(5, 0), 0);
        AutoIndenter y = Check.some();
        Check.due("digest() of a twin", y.digest(), before);
        y.pin(0);
        Check.put(y, "longer text");
        y.undo();
        Check.due("the text buffer is no part of it", y.clear(), 11);
    }

    private static void eightStates() {
        Check.says(0, "At most 8 recorded states are remembered: when one more is recorded, the oldest one is dropped");
        for (int changes : new int[] {0, 1, 7, 8, 9, 16, 17, 20}) {
            AutoIndenter x = Check.copies(changes, "a");
            int states = Math.min(8, changes);
            for (int left = states - 1; left >= 0; left--) {
                Check.due("undo() of " + changes + " changes", x.undo(), left);
                Check.due("lines()", x.lines(), changes - states + left);
            }
            Check.due("undo() beyond " + changes + " changes", x.undo(), STATE);
            Check.due("lines()", x.lines(), changes - states);
        }
        Check.says(0, "undo() restores the latest one and removes it");
        AutoIndenter x = Check.copies(12, "a");
        x.undo();
        x.undo();
        x.setBase(1);
        x.setBase(2);
        x.setBase(3);
        Check.due("undo()", x.undo(), 7);
        Check.due("the base", x.setBase(2), 2);
        Check.due("undo()", x.undo(), 7);
        Check.due("undo()", x.undo(), 6);
        Check.due("undo()", x.undo(), 5);
        Check.due("lines()", x.lines(), 10);
        Check.due("the base", x.setBase(9), 0);
        Check.says(0, "back() forgets them");
        x.keep(0);
        Check.due("back(0)", x.back(0), 10);
        Check.due("undo()", x.undo(), STATE);
        x.setBase(1);
        Check.due("undo()", x.undo(), 0);
    }
}
