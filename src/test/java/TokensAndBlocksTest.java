/** Promises 33 to 47: tokens and blocks. */
public final class TokensAndBlocksTest {
    public static void main(String[] args) {
        promise33To36Tokens();
        promise33To36Literals();
        promise33To36Strings();
        promise33To36LongestLines();
        promise33To36Comments();
        promise33To36WrongArguments();
        promise37And38Matches();
        promise37And38Precedences();
        promise37And38NotMatched();
        promise39To42Blocks();
        promise39To42WrongArguments();
        promise39TwelveBlocks();
        promise43Strays();
        promise44Lost();
        promise45To47Vocabulary();
        promise45To47Edges();
        everyQuestionFirst();
        Check.finish();
    }

    private static void tokensAre(AutoIndenter x, int i, String due) {
        Check.due("the tokens of '" + Check.content(x, i) + "'", Check.tokensOf(x, i), due);
    }

    private static void promise33To36Tokens() {
        AutoIndenter x = Check.withLines("   ab_9  (x1+ 7)", "", "Az09_[`{@:/", "_", "~!");
        tokensAre(x, 0, "0+4:0 6+1:1 7+2:0 9+1:1 11+1:0 12+1:1");
        tokensAre(x, 1, "");
        tokensAre(x, 2, "0+5:0 5+1:1 6+1:1 7+1:1 8+1:1 9+1:1 10+1:1");
        tokensAre(x, 3, "0+1:0");
        tokensAre(x, 4, "0+1:1 1+1:1");
        Check.due("tokens(0)", x.tokens(0), 6);
        Check.due("tokens(1)", x.tokens(1), 0);
    }

    private static void promise33To36Literals() {
        AutoIndenter x = Check.withLines("a \"\"\" b", "c ( # \" d", "", "e \"\"\"f \"\"\"g\"\"\" h", "\"\"\"\"\" i", "j");
        tokensAre(x, 0, "0+1:0 2+5:2");
        tokensAre(x, 1, "");
        tokensAre(x, 2, "");
        tokensAre(x, 3, "5+1:0 7+7:2 15+1:0");
        tokensAre(x, 4, "0+7:2");
        tokensAre(x, 5, "");
        Check.due("isProtected(5)", x.isProtected(5), 1);
        AutoIndenter y = Check.withLines("\"\"\"a\"\"\"b\"\"\"", "\"\"", "\"", "c");
        tokensAre(y, 0, "0+7:2 7+1:0 8+3:2");
        Check.due("three marks in a row stand in one line", y.isProtected(3), 1);
    }

    private static void promise33To36Strings() {
        AutoIndenter x = Check.withLines("\"a b\"c\"d\"", "\"\"x", "\"a\\\"b\" y", "\"a\\\\\"z\"", "\"open ( x", "\"a\\",
                "\"\\\"", "\\\"a\"", "\"\" \"\"", "\"a\"\"\"b", "\"#\" #");
        tokensAre(x, 0, "0+5:2 5+1:0 6+3:2");
        tokensAre(x, 1, "0+2:2 2+1:0");
        tokensAre(x, 2, "0+6:2 7+1:0");
        tokensAre(x, 3, "0+5:2 5+1:0 6+1:2");
        tokensAre(x, 4, "0+9:2");
        tokensAre(x, 5, "0+3:2");
        tokensAre(x, 6, "0+3:2");
        tokensAre(x, 7, "0+1:1 1+3:2");
        tokensAre(x, 8, "0+2:2 3+2:2");
        tokensAre(x, 9, "0+3:2 3+2:2 5+1:0");
        tokensAre(x, 10, "0+3:2");
    }

    /** Where a line has no room for another byte, its end is still seen. */
    private static void promise33To36LongestLines() {
        String word = "a".repeat(29);
        AutoIndenter x = Check.withLines(word + "aaa", word + " a\"", word + " \"\"", word + "\"a\\", word + "\"\\\"",
                word + "+ +", word + "\"\"\"", word + "a\"\"", word + "\"\"\"", "b");
        tokensAre(x, 0, "0+32:0");
        tokensAre(x, 1, "0+29:0 30+1:0 31+1:2");
        tokensAre(x, 2, "0+29:0 30+2:2");
        tokensAre(x, 3, "0+29:0 29+3:2");
        tokensAre(x, 4, "0+29:0 29+3:2");
        tokensAre(x, 5, "0+29:0 29+1:1 31+1:1");
        tokensAre(x, 6, "0+29:0 29+3:2");
        tokensAre(x, 7, "");
        tokensAre(x, 8, "");
        tokensAre(x, 9, "0+1:0");
    }

    private static void promise33To36Comments() {
        AutoIndenter x = Check.withLines("a#b \"\"\"", "# c", "d \\ e", "f");
        tokensAre(x, 0, "0+1:0");
        tokensAre(x, 1, "");
        x.setComment(92);
        tokensAre(x, 0, "0+1:0 1+1:1 2+1:0 4+3:2");
        Check.put(x, "\"a\\\" b\" \\ \"");
        x.replaceLine(0);
        tokensAre(x, 0, "0+7:2");
        tokensAre(x, 2, "0+1:0");
    }

    private static void promise33To36WrongArguments() {
        AutoIndenter x = Check.withLines("a b", "");
        int[][] wrong = {{0, 2}, {0, -1}, {1, 0}, {2, 0}, {-1, 0}, {0, Integer.MAX_VALUE}, {0, Integer.MIN_VALUE},
            {Integer.MAX_VALUE, 0}, {Integer.MIN_VALUE, 0}};
        for (int[] w : wrong) {
            String at = "(" + w[0] + ", " + w[1] + ")";
            Check.due("tokenAt" + at, x.tokenAt(w[0], w[1]), AutoIndenter.BAD);
            Check.due("tokenLength" + at, x.tokenLength(w[0], w[1]), AutoIndenter.BAD);
            Check.due("tokenKind" + at, x.tokenKind(w[0], w[1]), AutoIndenter.BAD);
            Check.due("openedBy" + at, x.openedBy(w[0], w[1]), AutoIndenter.BAD);
            Check.due("closedBy" + at, x.closedBy(w[0], w[1]), AutoIndenter.BAD);
        }
        Check.due("tokens(2)", x.tokens(2), AutoIndenter.BAD);
        Check.due("tokens(-1)", x.tokens(-1), AutoIndenter.BAD);
        Check.due("tokens(MAX)", x.tokens(Integer.MAX_VALUE), AutoIndenter.BAD);
    }

    private static void promise37And38Matches() {
        AutoIndenter x = Check.withLines("  a ( b [", "", "   c ] d", "x )");
        Check.pair(x, 0, "()", 1, 1, 0, 0);
        Check.pair(x, 1, "[]", 1, 1, 0, 0);
        Check.due("closedBy(0, 1)", x.closedBy(0, 1), 301);
        Check.due("closedBy(0, 3)", x.closedBy(0, 3), 201);
        Check.due("openedBy(2, 1)", x.openedBy(2, 1), 3);
        Check.due("openedBy(3, 1)", x.openedBy(3, 1), 1);
        Check.due("openedBy(0, 1), which opens", x.openedBy(0, 1), AutoIndenter.NONE);
        Check.due("closedBy(3, 1), which closes", x.closedBy(3, 1), AutoIndenter.NONE);
        Check.due("openedBy(0, 0)", x.openedBy(0, 0), AutoIndenter.NONE);
        Check.due("closedBy(0, 0)", x.closedBy(0, 0), AutoIndenter.NONE);
    }

    private static void promise37And38Precedences() {
        AutoIndenter x = Check.withLines("begin ( [ end )", "begin { end }");
        Check.pair(x, 0, "begin end", 5, 1, 0, 0);
        Check.pair(x, 1, "()", 4, 1, 0, 0);
        Check.pair(x, 2, "[]", 3, 1, 0, 0);
        Check.pair(x, 3, "{}", 6, 1, 0, 0);
        Check.due("closedBy(0, 0) over weaker blocks", x.closedBy(0, 0), 3);
        Check.due("closedBy(0, 1) of a lost block", x.closedBy(0, 1), AutoIndenter.NONE);
        Check.due("closedBy(0, 2) of a lost block", x.closedBy(0, 2), AutoIndenter.NONE);
        Check.due("openedBy(0, 4), whose block is lost", x.openedBy(0, 4), AutoIndenter.NONE);
        Check.due("openedBy(1, 2), below a stronger block", x.openedBy(1, 2), AutoIndenter.NONE);
        Check.due("openedBy(1, 3)", x.openedBy(1, 3), 101);
        Check.due("closedBy(1, 0) stays open", x.closedBy(1, 0), AutoIndenter.NONE);
        Check.due("depth(2)", x.depth(2), 1);
    }

    /** Only the topmost block with the closing text is considered, though a lower one could be closed. */
    private static void promise37And38NotMatched() {
        AutoIndenter x = Check.withLines("{ ( [ ;", "\"(\" \")\"");
        Check.pair(x, 0, "{ ;", 9, 1, 0, 0);
        Check.pair(x, 1, "( ;", 1, 1, 0, 0);
        Check.pair(x, 2, "[ ]", 2, 1, 0, 0);
        Check.due("openedBy(0, 3)", x.openedBy(0, 3), AutoIndenter.NONE);
        Check.due("closedBy(0, 0)", x.closedBy(0, 0), AutoIndenter.NONE);
        Check.due("depth(1)", x.depth(1), 3);
        Check.due("depth(2), strings open nothing", x.depth(2), 3);
    }

    private static void promise39To42Blocks() {
        AutoIndenter x = Check.withLines("  a ( b { # c", "     [", "x", "] }");
        Check.pair(x, 4, "()", 1, 1, 1, 0);
        Check.pair(x, 7, "{}", 1, 2, 1, 0);
        Check.pair(x, 9, "[]", 1, 3, 0, 0);
        int[] depths = {0, 2, 3, 3, 1};
        for (int i = 0; i < depths.length; i++) {
            Check.due("depth(" + i + ")", x.depth(i), depths[i]);
        }
        Check.due("blockRule(3, 0)", x.blockRule(3, 0), 4);
        Check.due("blockRule(3, 1)", x.blockRule(3, 1), 7);
        Check.due("blockRule(3, 2)", x.blockRule(3, 2), 9);
        Check.due("blockRule(4, 0)", x.blockRule(4, 0), 4);
        Check.due("blockOpening(3, 0)", x.blockOpening(3, 0), 4);
        Check.due("blockOpening(3, 1)", x.blockOpening(3, 1), 8);
        Check.due("blockOpening(3, 2)", x.blockOpening(3, 2), 105);
        Check.due("contentColumn(3, 0), aligned", x.contentColumn(3, 0), 6);
        Check.due("contentColumn(3, 1), nothing to align with", x.contentColumn(3, 1), 10);
        Check.due("contentColumn(3, 2), by steps", x.contentColumn(3, 2), 17);
        x.setStep(8);
        Check.due("contentColumn(3, 0)", x.contentColumn(3, 0), 6);
        Check.due("contentColumn(3, 2)", x.contentColumn(3, 2), 29);
        x.shift(1, 2, 30);
        Check.due("blockOpening(3, 2)", x.blockOpening(3, 2), 135);
        Check.due("contentColumn(3, 2), at most 40", x.contentColumn(3, 2), 40);
    }

    private static void promise39To42WrongArguments() {
        AutoIndenter x = Check.withLines("(", "a");
        Check.pair(x, 0, "()", 1, 1, 0, 0);
        Check.due("depth(-1)", x.depth(-1), AutoIndenter.BAD);
        Check.due("depth(3)", x.depth(3), AutoIndenter.BAD);
        Check.due("depth(2)", x.depth(2), 1);
        int[][] wrong = {{0, 0}, {1, 1}, {1, -1}, {2, 1}, {3, 0}, {-1, 0}, {1, Integer.MAX_VALUE},
            {1, Integer.MIN_VALUE}, {Integer.MAX_VALUE, 0}};
        for (int[] w : wrong) {
            String at = "(" + w[0] + ", " + w[1] + ")";
            Check.due("blockRule" + at, x.blockRule(w[0], w[1]), AutoIndenter.BAD);
            Check.due("blockOpening" + at, x.blockOpening(w[0], w[1]), AutoIndenter.BAD);
            Check.due("contentColumn" + at, x.contentColumn(w[0], w[1]), AutoIndenter.BAD);
        }
        Check.due("depth(0) of none", new AutoIndenter().depth(0), 0);
    }

    private static void promise39TwelveBlocks() {
        AutoIndenter x = Check.withLines("(((((((((((((", ")", "(", "(");
        Check.pair(x, 0, "()", 1, 1, 0, 0);
        Check.due("depth(1)", x.depth(1), 12);
        Check.due("closedBy(0, 12) opens nothing", x.closedBy(0, 12), AutoIndenter.NONE);
        Check.due("closedBy(0, 11)", x.closedBy(0, 11), 100);
        Check.due("depth(2)", x.depth(2), 11);
        Check.due("depth(3)", x.depth(3), 12);
        Check.due("depth(4)", x.depth(4), 12);
        Check.due("blockOpening(4, 11)", x.blockOpening(4, 11), 200);
        Check.joiner(x, 1, "(", 1, 1);
        Check.due("a token that opens nothing is a joiner", x.reason(1), 3);
        x.removeLine(1);
        Check.due("a token that opens nothing is a joiner", x.reason(1), 5);
    }

    private static void promise43Strays() {
        AutoIndenter x = Check.withLines(") ( ) )", "] \")\" # )", "| | x");
        Check.due("strays() without rules", x.strays(), 0);
        Check.pair(x, 0, "()", 1, 1, 0, 0);
        Check.due("strays()", x.strays(), 2);
        Check.pair(x, 1, "[]", 1, 1, 0, 0);
        Check.due("strays()", x.strays(), 3);
        Check.pair(x, 2, "||", 1, 1, 0, 0);
        Check.due("a token that opens can be stray too", x.strays(), 4);
        Check.pair(x, 3, "( |", 0, 1, 0, 0);
        Check.due("the closing text of any pair counts once", x.strays(), 4);
        Check.starter(x, 1, "]", 1, 1);
        Check.due("a starter closes nothing", x.strays(), 3);
    }

    private static void promise44Lost() {
        AutoIndenter x = Check.withLines("{ ( ( }", "{ (", ")", "{ ( }", "(");
        Check.pair(x, 0, "{}", 2, 1, 0, 0);
        Check.due("lost()", x.lost(), 0);
        Check.pair(x, 1, "()", 1, 1, 0, 0);
        Check.due("lost()", x.lost(), 3);
        Check.pair(x, 1, "()", 2, 1, 0, 0);
        Check.due("lost() with equal precedences", x.lost(), 0);
        Check.due("lost() of none", new AutoIndenter().lost(), 0);
    }

    private static void promise45To47Vocabulary() {
        AutoIndenter x = Check.withLines("b + ab +", "ab \"b\" b # b", "\"\"\" b", "b \"\"\" ab bb");
        Check.due("vocabulary()", x.vocabulary(), 4);
        Check.due("commonestCount()", x.commonestCount(), 3);
        Check.due("commonestByte(0)", x.commonestByte(0), 97);
        Check.due("commonestByte(1)", x.commonestByte(1), 98);
        Check.due("commonestByte(2)", x.commonestByte(2), AutoIndenter.NONE);
        Check.due("commonestByte(MAX)", x.commonestByte(Integer.MAX_VALUE), AutoIndenter.NONE);
        Check.due("commonestByte(-1)", x.commonestByte(-1), AutoIndenter.BAD);
        Check.put(x, "x y");
        x.replaceLine(3);
        Check.due("of several the one that occurs first", x.commonestByte(0), 98);
        Check.due("commonestCount()", x.commonestCount(), 2);
        x.removeLine(2);
        Check.due("vocabulary()", x.vocabulary(), 5);
    }

    /** No answer may depend on another question that has been asked before. */
    private static void everyQuestionFirst() {
        int[] due = {2, 3, 2, 1, 4, 101, 1, 0, 3, 5, 0, 0, 97, 0};
        for (int question = 0; question < due.length; question++) {
            AutoIndenter x = Check.withLines(" a ( ab a", "a ) a \"\"\"", "b");
            x.keep(0);
            Check.pair(x, 0, "()", 1, 1, 0, 0);
            x.removeLine(2);
            x.removeLine(1);
            x.depth(0);
            x.back(0);
            Check.pair(x, 0, "()", 1, 1, 0, 0);
            Check.due("question " + question, ask(x, question), due[question]);
        }
    }

    private static int ask(AutoIndenter x, int question) {
        switch (question) {
            case 0: return x.tokenAt(0, 1);
            case 1: return x.tokenLength(1, 3);
            case 2: return x.tokenKind(1, 3);
            case 3: return x.isProtected(2);
            case 4: return x.tokens(1);
            case 5: return x.closedBy(0, 1);
            case 6: return x.openedBy(1, 1);
            case 7: return x.blockRule(1, 0);
            case 8: return x.blockOpening(1, 0);
            case 9: return x.contentColumn(1, 0);
            case 10: return x.strays();
            case 11: return x.lost();
            case 12: return x.commonestByte(0);
            default: return x.depth(2);
        }
    }

    private static void promise45To47Edges() {
        AutoIndenter x = Check.withLines("\"a\" # b", "");
        Check.due("vocabulary() without tokens", x.vocabulary(), 0);
        Check.due("commonestCount() without tokens", x.commonestCount(), AutoIndenter.NONE);
        Check.due("commonestByte(0) without tokens", x.commonestByte(0), AutoIndenter.NONE);
        Check.due("commonestByte(-1) without tokens", x.commonestByte(-1), AutoIndenter.BAD);
        AutoIndenter y = new AutoIndenter();
        Check.put(y, "+".repeat(32));
        while (y.lines() < 20) {
            y.insertLine(0);
        }
        Check.due("commonestCount() of as many tokens as there can be", y.commonestCount(), 640);
        Check.due("tokens(19)", y.tokens(19), 32);
        Check.due("vocabulary()", y.vocabulary(), 1);
        Check.put(y, "++a a A");
        y.replaceLine(0);
        Check.due("vocabulary()", y.vocabulary(), 3);
    }
}
