import java.util.function.IntFunction;
import java.util.function.Supplier;

/** Promises 33 to 47, each sentence at its edges. */
public final class EdgesOfTokensTest {
    private static final int BAD = AutoIndenter.BAD, NONE = AutoIndenter.NONE;
    private static final String Q3 = "\"\"\"";
    private static final String PLUS32 = "+".repeat(32);

    /** A question with a line and an index. */
    private interface Question {
        int ask(AutoIndenter x, int i, int k);
    }

    public static void main(String[] args) {
        tokens();
        tokenAt();
        tokenLength();
        tokenKind();
        openedBy();
        closedBy();
        depth();
        blockRule();
        blockOpening();
        contentColumn();
        strays();
        lost();
        vocabulary();
        commonestCount();
        commonestByte();
        Check.finish();
    }

    private static void noSuchLine(String call, IntFunction<Check.Call> run) {
        for (int count : new int[] {0, 1, 20}) {
            Supplier<AutoIndenter> maker = () -> Check.copies(count, " a b");
            for (int i : new int[] {-1, count, count + 1}) {
                Check.refused(call + " of line " + i + " of " + count, maker, run.apply(i), BAD);
            }
        }
    }

    private static void noSuchToken(String call, Question question) {
        noSuchLine(call, i -> x -> question.ask(x, i, 0));
        Supplier<AutoIndenter> maker = () -> Check.withLines("a (b", "", "# c", Q3, "d", "e" + Q3 + "f");
        int[] tokens = {3, 0, 0, 1, 0, 1};
        for (int i = 0; i < tokens.length; i++) {
            int line = i;
            for (int k : new int[] {-1, tokens[i], tokens[i] + 1}) {
                Check.refused(call + "(" + i + ", " + k + ")", maker, x -> question.ask(x, line, k), BAD);
            }
        }
        maker = () -> Check.withLines(PLUS32);
        Check.refused(call + "(0, 32) of 32 tokens", maker, x -> question.ask(x, 0, 32), BAD);
    }

    private static void tokens() {
        Check.says(33, "Counts the tokens of a line.", "Returns the number");
        Check.due("a blank line", Check.withLines("").tokens(0), 0);
        Check.due("a comment", Check.withLines("# a").tokens(0), 0);
        for (int n = 1; n <= 32; n++) {
            Check.due(n + " tokens", Check.withLines("+".repeat(n)).tokens(0), n);
        }
        Check.due("one token of 32 bytes", Check.withLines("a".repeat(32)).tokens(0), 1);
        AutoIndenter x = Check.copies(20, PLUS32);
        Check.due("tokens(19) of 20 lines", x.tokens(19), 32);
        Check.put(x, Q3);
        x.replaceLine(0);
        Check.due("tokens(19) in a literal", x.tokens(19), 0);
        Check.says(33, "BAD if there is no such line.");
        noSuchLine("tokens", i -> y -> y.tokens(i));
    }

    private static void tokenAt() {
        Check.says(34, "Returns where a token begins.", "Returns the index of its first byte in the content of the line");
        AutoIndenter x = Check.withLines("     a" + " ".repeat(30) + "b", PLUS32);
        Check.due("the indentation does not count", x.tokenAt(0, 0), 0);
        Check.due("the greatest index", x.tokenAt(0, 1), 31);
        for (int k = 0; k < 32; k++) {
            Check.due("tokenAt(1, " + k + ")", x.tokenAt(1, k), k);
        }
        x = Check.withLines(Q3, Q3 + "a");
        Check.due("behind a literal", x.tokenAt(1, 0), 3);
        Check.says(34, "BAD if there is no such line or token.");
        noSuchToken("tokenAt", AutoIndenter::tokenAt);
    }

    private static void tokenLength() {
        Check.says(35, "Returns the length of a token.", "Returns the number of its bytes in this line (its quotation marks"
                + " included)");
        for (int n = 1; n <= 32; n++) {
            Check.due("a word of " + n, Check.withLines("a".repeat(n)).tokenLength(0, 0), n);
        }
        Check.due("a byte of kind 1", Check.withLines(PLUS32).tokenLength(0, 31), 1);
        Check.due("a string", Check.withLines("\"a\"").tokenLength(0, 0), 3);
        Check.due("an empty string", Check.withLines("\"\"").tokenLength(0, 0), 2);
        Check.due("a string without an end", Check.withLines("\"").tokenLength(0, 0), 1);
        Check.due("a string of 32", Check.withLines("\"" + " ".repeat(30) + "\"").tokenLength(0, 0), 32);
        Check.due("a literal", Check.withLines(Q3 + "a" + Q3).tokenLength(0, 0), 7);
        Check.due("an empty literal", Check.withLines(Q3 + Q3).tokenLength(0, 0), 6);
        Check.due("a literal of 32", Check.withLines(Q3 + "a".repeat(26) + Q3).tokenLength(0, 0), 32);
        Check.due("a literal that goes on", Check.withLines("a " + Q3, "bbbb", Q3).tokenLength(0, 1), 3);
        Check.due("a literal that goes on", Check.withLines(Q3 + "a  b", "bbbb", Q3).tokenLength(0, 0), 7);
        Check.says(35, "BAD if there is no such line or token.");
        noSuchToken("tokenLength", AutoIndenter::tokenLength);
    }

    private static void tokenKind() {
        Check.says(36, "Returns the kind of a token.", "Returns 0, 1 or 2");
        AutoIndenter x = Check.withLines("_ + \"a\" " + Q3 + "a" + Q3 + " \"");
        int[] due = {0, 1, 2, 2, 2};
        for (int k = 0; k < due.length; k++) {
            Check.due("tokenKind(0, " + k + ")", x.tokenKind(0, k), due[k]);
        }
        Check.says(36, "BAD if there is no such line or token.");
        noSuchToken("tokenKind", AutoIndenter::tokenKind);
    }

    private static void openedBy() {
        Check.says(37, "Finds the token that opened the block that a token closes.", "Returns 100 times the line of the"
                + " opening token plus its index in this line");
        AutoIndenter x = Check.copies(20, "");
        Check.put(x, " ( )");
        x.replaceLine(0);
        Check.pair(x, 0, "()", 0, 0, 0, 0);
        Check.due("the first token of the first line", x.openedBy(0, 1), 0);
        Check.put(x, "+".repeat(30) + "()");
        x.replaceLine(19);
        Check.due("far behind in the last line", x.openedBy(19, 31), 1930);
        Check.put(x, "+".repeat(31) + "(");
        x.replaceLine(0);
        Check.put(x, ")");
        x.replaceLine(19);
        Check.due("the last token of the first line", x.openedBy(19, 0), 31);
        Check.says(37, "NONE if the token closes nothing");
        x = Check.withLines("( a \")\" [ ) ]", ")");
        Check.pair(x, 0, "()", 0, 0, 0, 0);
        Check.pair(x, 1, "[]", 0, 0, 0, 0);
        int[] due = {NONE, NONE, NONE, NONE, NONE, 3};
        for (int k = 0; k < due.length; k++) {
            Check.due("openedBy(0, " + k + ")", x.openedBy(0, k), due[k]);
        }
        Check.due("openedBy(1, 0)", x.openedBy(1, 0), 0);
        x.dropRule(0);
        Check.due("openedBy(1, 0) without the pair", x.openedBy(1, 0), NONE);
        Check.says(37, "BAD if there is no such line or token.");
        noSuchToken("openedBy", AutoIndenter::openedBy);
    }

    private static void closedBy() {
        Check.says(38, "Finds the token that closes the block that a token opens.", "Returns 100 times the line of the"
                + " closing token plus its index in this line");
        AutoIndenter x = Check.copies(20, "");
        Check.put(x, "()");
        x.replaceLine(0);
        Check.pair(x, 0, "()", 0, 0, 0, 0);
        Check.due("in the first line", x.closedBy(0, 0), 1);
        Check.put(x, "(");
        x.replaceLine(0);
        Check.put(x, "+".repeat(31) + ")");
        x.replaceLine(19);
        Check.due("the last token of the last line", x.closedBy(0, 0), 1931);
        Check.says(38, "NONE if the token opens no block, or the block is lost or stays open");
        Check.due("a token that opens no block", x.closedBy(19, 0), NONE);
        Check.due("a token that closes one", x.closedBy(19, 31), NONE);
        x.removeLine(19);
        Check.due("a block that stays open", x.closedBy(0, 0), NONE);
        x = Check.withLines("{ ( ( }", "(", ")");
        Check.pair(x, 0, "{}", 1, 0, 0, 0);
        Check.pair(x, 1, "()", 0, 0, 0, 0);
        Check.due("a lost block", x.closedBy(0, 1), NONE);
        Check.due("another lost block", x.closedBy(0, 2), NONE);
        Check.due("the block below them", x.closedBy(0, 0), 3);
        Check.due("a block behind them", x.closedBy(1, 0), 200);
        x = Check.withLines("(".repeat(13), ")".repeat(13));
        Check.pair(x, 0, "()", 0, 0, 0, 0);
        for (int k = 0; k < 12; k++) {
            Check.due("block " + k + " of 12", x.closedBy(0, k), 111 - k);
        }
        Check.due("the 13th opens none", x.closedBy(0, 12), NONE);
        x = Check.withLines("|", "|", "|");
        Check.pair(x, 0, "||", 0, 0, 0, 0);
        Check.due("a token that closes and opens", x.closedBy(1, 0), 200);
        Check.due("the last one", x.closedBy(2, 0), NONE);
        Check.says(38, "BAD if there is no such line or token.");
        noSuchToken("closedBy", AutoIndenter::closedBy);
    }

    private static AutoIndenter parentheses(String... lines) {
        AutoIndenter x = Check.withLines(lines);
        Check.pair(x, 0, "()", 0, 1, 0, 0);
        return x;
    }

    private static void depth() {
        Check.says(39, "Counts the open blocks before a line.", "Returns how many blocks are open before the first token of"
                + " the line (or behind all tokens)");
        Check.due("no lines", new AutoIndenter().depth(0), 0);
        AutoIndenter x = parentheses("((", "", ")(", "))");
        int[] due = {0, 2, 2, 2, 0};
        for (int i = 0; i < due.length; i++) {
            Check.due("depth(" + i + ")", x.depth(i), due[i]);
        }
        x = Check.copies(20, "(");
        Check.pair(x, 0, "()", 0, 1, 0, 0);
        for (int i = 0; i <= 20; i++) {
            Check.due("depth(" + i + ") of 20 lines", x.depth(i), Math.min(i, 12));
        }
        Check.says(39, "BAD if i is out of range.");
        for (int count : new int[] {0, 1, 20}) {
            Supplier<AutoIndenter> maker = () -> Check.copies(count, "(");
            Check.refused("depth(-1) of " + count, maker, y -> y.depth(-1), BAD);
            Check.refused("depth beyond " + count, maker, y -> y.depth(count + 1), BAD);
        }
    }

    private static void noSuchBlock(String call, Question question) {
        for (int count : new int[] {0, 1, 13, 20}) {
            Supplier<AutoIndenter> maker = () -> {
                AutoIndenter x = Check.copies(count, "(");
                Check.pair(x, 0, "()", 0, 1, 0, 0);
                return x;
            };
            int open = Math.min(count, 12);
            Check.refused(call + "(-1, 0) of " + count, maker, x -> question.ask(x, -1, 0), BAD);
            Check.refused(call + " beyond " + count, maker, x -> question.ask(x, count + 1, 0), BAD);
            Check.refused(call + "(0, 0) of " + count, maker, x -> question.ask(x, 0, 0), BAD);
            Check.refused(call + "(n, -1) of " + count, maker, x -> question.ask(x, count, -1), BAD);
            Check.refused(call + "(n, depth) of " + count, maker, x -> question.ask(x, count, open), BAD);
            Check.refused(call + "(n, 12) of " + count, maker, x -> question.ask(x, count, 12), BAD);
        }
        Supplier<AutoIndenter> closed = () -> parentheses("(", ")", "a");
        Check.refused(call + "(2, 0), closed", closed, x -> question.ask(x, 2, 0), BAD);
        Check.refused(call + "(1, 1), one block", closed, x -> question.ask(x, 1, 1), BAD);
    }

    private static void blockRule() {
        Check.says(40, "Returns the rule of an open block.", "Returns its pair");
        AutoIndenter x = Check.withLines("{ ( [", "]");
        Check.pair(x, 11, "{}", 0, 0, 0, 0);
        Check.pair(x, 5, "()", 0, 0, 0, 0);
        Check.pair(x, 0, "[]", 0, 0, 0, 0);
        Check.due("the lowest one", x.blockRule(1, 0), 11);
        Check.due("the one above it", x.blockRule(1, 1), 5);
        Check.due("the topmost one", x.blockRule(1, 2), 0);
        Check.due("at the end", x.blockRule(2, 1), 5);
        x = parentheses("(".repeat(13));
        for (int k = 0; k < 12; k++) {
            Check.due("block " + k + " of 12", x.blockRule(1, k), 0);
        }
        Check.says(40, "BAD if i is out of range, or there is no such block.");
        noSuchBlock("blockRule", AutoIndenter::blockRule);
    }

    private static void blockOpening() {
        Check.says(41, "Returns where an open block was opened.", "Returns 100 times the line of its opening token plus the"
                + " column of this token");
        AutoIndenter x = Check.copies(20, "");
        Check.put(x, "(");
        x.replaceLine(0);
        Check.put(x, " ".repeat(40) + "a".repeat(31) + "(");
        x.replaceLine(19);
        Check.pair(x, 0, "()", 0, 0, 0, 0);
        Check.due("the first byte", x.blockOpening(1, 0), 0);
        Check.due("the last byte", x.blockOpening(20, 1), 1971);
        x = parentheses("   " + "(".repeat(13));
        for (int k = 0; k < 12; k++) {
            Check.due("block " + k + " of 12", x.blockOpening(1, k), 3 + k);
        }
        Check.says(41, "BAD if i is out of range, or there is no such block.");
        noSuchBlock("blockOpening", AutoIndenter::blockOpening);
    }

    private static void contentColumn() {
        Check.says(42, "Returns the content column of an open block.", "Returns the content column");
        AutoIndenter x = Check.withLines("(");
        Check.pair(x, 0, "()", 0, 0, 0, 0);
        Check.due("the least one", x.contentColumn(1, 0), 0);
        x = Check.withLines(" ".repeat(8) + "(");
        x.setStep(8);
        Check.pair(x, 0, "()", 0, 4, 0, 0);
        Check.due("the greatest one by steps", x.contentColumn(1, 0), 40);
        x.shift(0, 1, 1);
        Check.due("it is cut", x.contentColumn(1, 0), 40);
        x.shift(0, 1, -2);
        Check.due("one less", x.contentColumn(1, 0), 39);
        x = Check.withLines(" ".repeat(40) + "a".repeat(30) + "(b");
        Check.pair(x, 0, "()", 0, 4, 1, 0);
        Check.due("the greatest one by a token", x.contentColumn(1, 0), 71);
        Check.says(42, "BAD if i is out of range, or there is no such block.");
        noSuchBlock("contentColumn", AutoIndenter::contentColumn);
    }

    private static void strays() {
        Check.says(43, "Counts the stray tokens: those that have the closing text of some pair, but close nothing.",
                "Returns how many there are.");
        Check.due("no lines", new AutoIndenter().strays(), 0);
        Check.due("no rules", Check.withLines(")").strays(), 0);
        Check.due("none", parentheses("()", "(").strays(), 0);
        Check.due("one", parentheses(")").strays(), 1);
        Check.due("one behind a block", parentheses("())").strays(), 1);
        Check.due("in a string and a comment", parentheses("\")\" # )").strays(), 0);
        Check.due("in a literal", parentheses(Q3, ")", Q3 + ")").strays(), 1);
        AutoIndenter x = Check.copies(20, ")".repeat(32));
        Check.pair(x, 0, "()", 0, 0, 0, 0);
        Check.due("as many as there can be", x.strays(), 640);
        x = Check.withLines("|", "|", "|");
        Check.pair(x, 0, "||", 0, 0, 0, 0);
        Check.due("the first | closes nothing", x.strays(), 1);
        x = Check.withLines("{ ( }");
        Check.pair(x, 0, "{}", 0, 0, 0, 0);
        Check.pair(x, 1, "()", 0, 0, 0, 0);
        Check.due("held by a block above", x.strays(), 1);
        x = Check.withLines("; ;");
        Check.pair(x, 0, "{ ;", 0, 0, 0, 0);
        Check.due("the closing text of one pair", x.strays(), 2);
        Check.pair(x, 1, "( ;", 0, 0, 0, 0);
        Check.due("the closing text of two pairs", x.strays(), 2);
        x.removeLine(0);
        Check.due("none any more", x.strays(), 0);
        x.undo();
        Check.due("undone", x.strays(), 2);
    }

    private static void lost() {
        Check.says(44, "Counts the lost blocks: those that were above a block that was closed.",
                "Returns how many there are.");
        Check.due("no lines", new AutoIndenter().lost(), 0);
        for (int n = 0; n <= 13; n++) {
            AutoIndenter x = Check.withLines("{" + "(".repeat(n) + "}");
            Check.pair(x, 0, "{}", 1, 0, 0, 0);
            Check.pair(x, 1, "()", 0, 0, 0, 0);
            Check.due(n + " blocks above", x.lost(), Math.min(n, 11));
            Check.due("depth(1)", x.depth(1), 0);
        }
        AutoIndenter x = Check.withLines("( { ( ( ) }", "{ ( }", "{ (");
        Check.pair(x, 0, "{}", 1, 0, 0, 0);
        Check.pair(x, 1, "()", 0, 0, 0, 0);
        Check.due("neither closed nor open ones nor those below", x.lost(), 2);
        x.removeLine(1);
        Check.due("one less", x.lost(), 1);
        x.undo();
        Check.due("undone", x.lost(), 2);
        x = Check.copies(20, "{ ( }{ ( }{ ( }");
        Check.pair(x, 0, "{}", 1, 0, 0, 0);
        Check.pair(x, 1, "()", 0, 0, 0, 0);
        Check.due("60 times", x.lost(), 60);
    }

    private static void vocabulary() {
        Check.says(45, "Counts the different tokens of the kinds 0 and 1.", "Two tokens are different if their texts are.",
                "Returns how many different ones there are.");
        Check.due("no lines", new AutoIndenter().vocabulary(), 0);
        Check.due("blank lines", Check.copies(20, "").vocabulary(), 0);
        Check.due("strings and comments", Check.withLines("\"a\" \"\" # b", Q3).vocabulary(), 0);
        Check.due("the same", Check.copies(20, "a a a").vocabulary(), 1);
        Check.due("upper and lower case", Check.withLines("a A").vocabulary(), 2);
        Check.due("a beginning of the other", Check.withLines("a aa aaa").vocabulary(), 3);
        Check.due("the last byte", Check.withLines("a".repeat(31) + "b", "a".repeat(31) + "c").vocabulary(), 2);
        Check.due("the same of 32 bytes", Check.withLines("a".repeat(31) + "b", "a".repeat(31) + "b").vocabulary(), 1);
        Check.due("the same at other places", Check.withLines("abc", "  x abc", "+abc").vocabulary(), 3);
        Check.due("a word and the same in quotation marks", Check.withLines("a \"a\"").vocabulary(), 1);
        String signs = "!$%&'()*+,-./:;<=>?@[\\]^`{|}~";
        AutoIndenter x = Check.withLines(signs);
        Check.due("all bytes of kind 1 but one", x.vocabulary(), 29);
        Check.addLines(x, "0 1 2 3 4 5 6 7 8 9 A B C D E F", "G H I J K L M N O P Q R S T U V");
        Check.due("words of one byte too", x.vocabulary(), 61);
    }

    private static void commonestCount() {
        Check.says(46, "Finds the commonest token of the kinds 0 and 1: the one that occurs most often; of several the one"
                + " that occurs first.", "Returns how often it occurs");
        Check.due("once", Check.withLines("a").commonestCount(), 1);
        Check.due("as often as can be", Check.copies(20, PLUS32).commonestCount(), 640);
        AutoIndenter x = Check.withLines("\"s\" b a", "a b", "c \"s\" \"s\"");
        Check.due("twice", x.commonestCount(), 2);
        Check.due("the first of two", x.commonestByte(0), 'b');
        Check.addLines(x, "a");
        Check.due("three times", x.commonestCount(), 3);
        Check.due("the commonest one", x.commonestByte(0), 'a');
        Check.addLines(x, "c c");
        Check.due("three times", x.commonestCount(), 3);
        Check.due("the first of two", x.commonestByte(0), 'a');
        Check.says(46, "NONE if there are no such tokens.");
        Check.due("no lines", new AutoIndenter().commonestCount(), NONE);
        Check.due("a blank line", Check.withLines("").commonestCount(), NONE);
        Check.due("strings and comments", Check.withLines("\"a\" # b", Q3, "c").commonestCount(), NONE);
    }

    private static void commonestByte() {
        Check.says(47, "Returns a byte of the text of the commonest token, as for commonestCount().", "Returns the byte");
        String word = "abcdefghijklmnopqrstuvwxyz_ABCDE";
        AutoIndenter x = Check.withLines("   " + word);
        for (int k = 0; k < 32; k++) {
            Check.due("commonestByte(" + k + ")", x.commonestByte(k), word.charAt(k));
        }
        Check.due("a byte of kind 1", Check.withLines("  ~").commonestByte(0), '~');
        x = Check.copies(20, "");
        Check.put(x, "\"\" \"\" a#");
        x.replaceLine(19);
        Check.due("in the last line", x.commonestByte(0), 'a');
        Check.says(47, "NONE if there is no such token, or it has not so many bytes");
        Check.due("commonestByte(1) of one", x.commonestByte(1), NONE);
        Check.due("commonestByte(32) of 32", Check.withLines(word).commonestByte(32), NONE);
        Check.due("commonestByte(1) of +", Check.withLines("++").commonestByte(1), NONE);
        Check.due("commonestByte(MAX)", x.commonestByte(Integer.MAX_VALUE), NONE);
        Check.due("commonestByte(0) of none", new AutoIndenter().commonestByte(0), NONE);
        Check.due("commonestByte(0) of a string", Check.withLines("\"a\"").commonestByte(0), NONE);
        Check.says(47, "BAD if k is negative.");
        for (int k : new int[] {-1, Integer.MIN_VALUE}) {
            Check.refused("commonestByte(" + k + ")", Check::some, y -> y.commonestByte(k), BAD);
            Check.refused("commonestByte(" + k + ") of none", AutoIndenter::new, y -> y.commonestByte(k), BAD);
        }
    }
}
