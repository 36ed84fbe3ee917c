/** The section "Terms": tokens, protected lines, rules and blocks, each at its edges. */
public final class TermsOfTokensTest {
    private static final int BAD = AutoIndenter.BAD, NONE = AutoIndenter.NONE;
    private static final String Q3 = "\"\"\"";

    public static void main(String[] args) {
        leftToRight();
        literalsInOneLine();
        literalsOverLines();
        strings();
        comments();
        words();
        otherBytes();
        behindALiteral();
        protectedLines();
        twelveRules();
        precedencesOfRules();
        textsOfRules();
        stepsAndModes();
        severalRules();
        emptyStack();
        topmostBlock();
        blocksAbove();
        twelveBlocks();
        alignedContentColumn();
        contentColumnBySteps();
        Check.finish();
    }

    private static void tokensAre(String content, String due) {
        AutoIndenter x = Check.withLines(content);
        Check.due("the tokens of '" + content + "'", Check.tokensOf(x, 0), due);
    }

    private static void leftToRight() {
        Check.says(0, "The content of a line is divided from left to right.");
        tokensAre("\"#\"#\"", "0+3:2");
        tokensAre("#\"#\"", "");
        tokensAre("a\"b\"c", "0+1:0 1+3:2 4+1:0");
        Check.says(0, "Spaces are skipped.");
        tokensAre("", "");
        tokensAre("    ", "");
        tokensAre("  a", "0+1:0");
        tokensAre("a" + " ".repeat(30) + "b", "0+1:0 31+1:0");
        tokensAre("+ +", "0+1:1 2+1:1");
    }

    /** The object has the line, and a line behind it that is protected if the literal is not ended. */
    private static void literal(String content, String due, int goesOn) {
        AutoIndenter x = Check.withLines(content, "z");
        Check.due("the tokens of '" + content + "'", Check.tokensOf(x, 0), due);
        Check.due("isProtected behind '" + content + "'", x.isProtected(1), goesOn);
        Check.due("tokens behind '" + content + "'", x.tokens(1), 1 - goesOn);
    }

    private static void literalsInOneLine() {
        Check.says(0, "Three quotation marks (\") in a row begin a literal, which goes on to the next three quotation"
                + " marks in a row that follow it");
        literal("\"", "0+1:2", 0);
        literal("\"\"", "0+2:2", 0);
        literal("\"\"\"", "0+3:2", 1);
        literal("\"\"\"\"", "0+4:2", 1);
        literal("\"\"\"\"\"", "0+5:2", 1);
        literal("\"\"\"\"\"\"", "0+6:2", 0);
        literal("\"\"\"\"\"\"\"", "0+6:2 6+1:2", 0);
        literal("\"\"\"\"\"\"\"\"", "0+6:2 6+2:2", 0);
        literal("\"\"\"\"\"\"\"\"\"", "0+6:2 6+3:2", 1);
        literal("\" \"\"", "0+3:2 3+1:2", 0);
        literal("\"\" \"", "0+2:2 3+1:2", 0);
        literal(Q3 + "a\"\"b\"" + Q3, "0+10:2 10+1:2", 0);
        literal(Q3 + "a\"\"b" + Q3 + "c", "0+10:2 10+1:0", 0);
        literal(Q3 + "\\" + Q3, "0+7:2", 0);
        literal(Q3 + "#" + Q3 + "#", "0+7:2", 0);
        literal("a" + Q3 + "b", "0+1:0 1+4:2", 1);
        literal("\"a\"\"\"\"b", "0+3:2 3+4:2", 1);
        literal("\"a\"" + "\"\"b", "0+3:2 3+2:2 5+1:0", 0);
        literal("a".repeat(29) + Q3, "0+29:0 29+3:2", 1);
        literal("a".repeat(26) + Q3 + Q3, "0+26:0 26+6:2", 0);
        literal("a".repeat(27) + Q3 + "\"\"", "0+27:0 27+5:2", 1);
        literal("a".repeat(30) + "\"\"", "0+30:0 30+2:2", 0);
    }

    private static void literalsOverLines() {
        Check.says(0, "in this line or a later one, or to the end of the last line; the literal as a whole is one token of"
                + " kind 2, which belongs to the line in which the literal begins");
        AutoIndenter x = Check.copies(20, "a");
        Check.put(x, "b" + Q3);
        x.replaceLine(0);
        for (int i = 1; i < 20; i++) {
            Check.due("isProtected(" + i + ")", x.isProtected(i), 1);
            Check.due("tokens(" + i + ")", x.tokens(i), 0);
        }
        Check.due("tokens(0)", Check.tokensOf(x, 0), "0+1:0 1+3:2");
        Check.put(x, Q3);
        x.replaceLine(19);
        Check.due("its end in the last line is no token", x.tokens(19), 0);
        x.replaceLine(0);
        x.replaceLine(1);
        Check.due("its end in the next line", x.isProtected(1), 1);
        Check.due("the line behind", x.isProtected(2), 0);
        Check.due("a literal in the last line", Check.tokensOf(x, 19), "0+3:2");
        x = Check.withLines("\"", "\"", "\"", "a");
        Check.due("marks in several lines are no row", x.isProtected(3), 0);
        x = Check.withLines(Q3, "\"\"", "\"", "a");
        Check.due("nor do they end a literal", x.isProtected(3), 1);
    }

    private static void strings() {
        Check.says(0, "Any other quotation mark begins a string, which ends with the next quotation mark in the line");
        tokensAre("\"a\"b", "0+3:2 3+1:0");
        tokensAre("\"\"b", "0+2:2 2+1:0");
        tokensAre("\"a\"\"b\"", "0+3:2 3+3:2");
        tokensAre("a".repeat(29) + "\"b\"", "0+29:0 29+3:2");
        Check.says(0, "where a backslash (byte 92) and the byte behind it are skipped");
        tokensAre("\"\\\"\"b", "0+4:2 4+1:0");
        tokensAre("\"\\\\\"b", "0+4:2 4+1:0");
        tokensAre("\"\\\\\\\"\"b", "0+6:2 6+1:0");
        tokensAre("\"\\a\"b", "0+4:2 4+1:0");
        tokensAre("\"\\ \"b", "0+4:2 4+1:0");
        tokensAre("\\\"a\"", "0+1:1 1+3:2");
        tokensAre("\"a\\\"\"\"b", "0+5:2 5+2:2");
        Check.says(0, "or at the end of the content; it is a token of kind 2");
        tokensAre("\"", "0+1:2");
        tokensAre("\"a b", "0+4:2");
        tokensAre("\"a\\", "0+3:2");
        tokensAre("\"a\\\"", "0+4:2");
        tokensAre("\"\\", "0+2:2");
        tokensAre("a".repeat(31) + "\"", "0+31:0 31+1:2");
        tokensAre("a".repeat(30) + "\"\\", "0+30:0 30+2:2");
        tokensAre("a".repeat(29) + "\"\\\"", "0+29:0 29+3:2");
        tokensAre("\"" + "a".repeat(31), "0+32:2");
        AutoIndenter x = Check.withLines("\"a", "b\"", "c");
        Check.due("a string ends with its line", Check.tokensOf(x, 1), "0+1:0 1+1:2");
        Check.due("and with the next one", Check.tokensOf(x, 2), "0+1:0");
        Check.due("no line behind it is protected", x.isProtected(1) + x.isProtected(2), 0);
    }

    private static void comments() {
        Check.says(0, "The comment byte begins a comment, which goes on to the end of the content and contains no tokens.");
        tokensAre("#", "");
        tokensAre("##", "");
        tokensAre("#a", "");
        tokensAre("a#", "0+1:0");
        tokensAre("a#b#c", "0+1:0");
        tokensAre("a".repeat(31) + "#", "0+31:0");
        tokensAre("\"a#b\"#c", "0+5:2");
        tokensAre("\"a#b", "0+4:2");
        AutoIndenter x = Check.withLines("# " + Q3, "a", "b " + Q3, "# c " + Q3 + " d # e", "f");
        Check.due("no literal begins in a comment", x.isProtected(1), 0);
        Check.due("in a literal there is no comment", Check.tokensOf(x, 3), "8+1:0");
        Check.due("the literal has ended", x.isProtected(4), 0);
        x = Check.withLines("( # )", ") # (");
        Check.pair(x, 0, "()", 0, 0, 0, 0);
        Check.due("a comment closes and opens nothing", x.closedBy(0, 0), 100);
        Check.due("depth(2)", x.depth(2), 0);
        x.setComment('(');
        Check.due("the opening text begins comments", x.tokens(0), 0);
        Check.due("so it opens nothing", x.depth(2), 0);
        Check.due("strays()", x.strays(), 1);
        x = Check.withLines("\"a\\\"b\" \\ c");
        x.setComment(92);
        Check.due("a backslash in a string, though it begins comments", Check.tokensOf(x, 0), "0+6:2");
        x.setComment(0);
        Check.due("and without comments", Check.tokensOf(x, 0), "0+6:2 7+1:1 9+1:0");
    }

    private static void words() {
        Check.says(0, "A word, the longest sequence of letters, digits and underscores, is a token of kind 0.");
        String letters = "ABCDEFGHIJKLMNOPQRSTUVWXYZabcdefghijklmnopqrstuvwxyz0123456789_";
        for (int k = 0; k < letters.length(); k++) {
            tokensAre(letters.substring(k, k + 1), "0+1:0");
            tokensAre("a" + letters.charAt(k) + "0", "0+3:0");
        }
        tokensAre(letters.substring(0, 32), "0+32:0");
        tokensAre(letters.substring(31), "0+32:0");
        tokensAre("a b", "0+1:0 2+1:0");
        tokensAre("a-b", "0+1:0 1+1:1 2+1:0");
        tokensAre("9a", "0+2:0");
    }

    private static void otherBytes() {
        Check.says(0, "Any other byte is a token of kind 1 by itself.");
        String others = "!$%&'()*+,-./:;<=>?@[\\]^`{|}~";
        for (int k = 0; k < others.length(); k++) {
            String s = others.substring(k, k + 1);
            tokensAre(s, "0+1:1");
            tokensAre("a" + s + s + "b", "0+1:0 1+1:1 2+1:1 3+1:0");
        }
        AutoIndenter x = Check.withLines("#");
        x.setComment(0);
        Check.due("# if it begins no comments", Check.tokensOf(x, 0), "0+1:1");
        x = Check.withLines("+".repeat(32));
        Check.due("32 tokens", x.tokens(0), 32);
        Check.due("the last one", x.tokenAt(0, 31), 31);
    }

    private static void behindALiteral() {
        Check.says(0, "The part of a literal that lies in a later line than its beginning is no token of that line; behind"
                + " its end the line is divided as usual.");
        AutoIndenter x = Check.withLines(Q3, "a " + Q3);
        Check.due("nothing behind its end", Check.tokensOf(x, 1), "");
        x = Check.withLines(Q3, Q3 + "a");
        Check.due("its end at the beginning", Check.tokensOf(x, 1), "3+1:0");
        x = Check.withLines(Q3, "b " + Q3 + " a \"c\" + # d");
        Check.due("all sorts of tokens behind it", Check.tokensOf(x, 1), "6+1:0 8+3:2 12+1:1");
        x = Check.withLines(Q3, Q3 + Q3, "a", Q3 + "b");
        Check.due("another literal directly behind it", Check.tokensOf(x, 1), "3+3:2");
        Check.due("which goes on", x.isProtected(2), 1);
        Check.due("and ends", Check.tokensOf(x, 3), "3+1:0");
        x = Check.withLines(Q3, "a".repeat(29) + Q3, "b");
        Check.due("its end at the end of 32 bytes", x.tokens(1), 0);
        Check.due("the line behind", x.isProtected(2), 0);
        x = Check.withLines(Q3, Q3 + "\"", "b");
        Check.due("a string behind it", Check.tokensOf(x, 1), "3+1:2");
    }

    private static void protectedLines() {
        Check.says(0, "A line is protected if a literal that has begun in an earlier line goes on at the beginning of its"
                + " content");
        AutoIndenter x = Check.withLines(Q3 + " " + Q3, "a", "b " + Q3, Q3 + " c", "d", Q3, "e");
        int[] due = {0, 0, 0, 1, 0, 0, 1};
        for (int i = 0; i < due.length; i++) {
            Check.due("isProtected(" + i + ")", x.isProtected(i), due[i]);
        }
        Check.says(0, "if the line is blank, it is not protected");
        x = Check.withLines(Q3, "", "a", "", Q3, "");
        due = new int[] {0, 0, 1, 0, 1, 0};
        for (int i = 0; i < due.length; i++) {
            Check.due("isProtected(" + i + ")", x.isProtected(i), due[i]);
        }
    }

    private static void twelveRules() {
        Check.says(0, "There are at most 12 rules, numbered 0 to 11, of three sorts.");
        AutoIndenter x = Check.withLines("a");
        for (int r = 0; r < 12; r++) {
            int got = r % 3 == 0 ? Check.pair(x, r, "( )", 0, 0, 0, 0)
                    : r % 3 == 1 ? Check.starter(x, r, "a", 0, 0) : Check.joiner(x, r, "b", 0, 0);
            Check.due("rule " + r, got, 0);
        }
        Check.refused("pair(12, ..)", () -> Check.buffered(Check.full(), "()"), y -> y.pair(12, 0, 0, 0, 0), BAD);
        Check.refused("pair(-1, ..)", () -> Check.buffered(Check.full(), "()"), y -> y.pair(-1, 0, 0, 0, 0), BAD);
        Check.refused("starter(12, ..)", () -> Check.buffered(Check.full(), "a"), y -> y.starter(12, 0, 0), BAD);
        Check.refused("joiner(12, ..)", () -> Check.buffered(Check.full(), "a"), y -> y.joiner(12, 0, 0), BAD);
        for (int r = 0; r < 12; r++) {
            Check.due("dropRule(" + r + ")", x.dropRule(r), 11 - r);
        }
    }

    private static void precedencesOfRules() {
        Check.says(0, "Each has a precedence, 0 to 9, and steps.");
        AutoIndenter x = Check.withLines("a +", "a");
        Check.starter(x, 0, "a", 0, 1);
        Check.joiner(x, 1, "+", 9, 2);
        Check.due("the greatest precedence decides", x.decidingRule(1), 1);
        Check.due("the least one beats the ground", x.decidingRule(0), 0);
        Check.starter(x, 0, "a", 9, 1);
        Check.joiner(x, 1, "+", 0, 2);
        Check.due("the greatest precedence decides", x.decidingRule(1), 0);
        for (int p : new int[] {-1, 10}) {
            Check.refused("starter with " + p, () -> Check.buffered(Check.some(), "a"), y -> y.starter(0, p, 0), BAD);
            Check.refused("joiner with " + p, () -> Check.buffered(Check.some(), "a"), y -> y.joiner(0, p, 0), BAD);
            Check.refused("pair with " + p, () -> Check.buffered(Check.some(), "()"), y -> y.pair(0, p, 0, 0, 0), BAD);
        }
    }

    private static void textsOfRules() {
        Check.says(0, "The text of a rule is a token of kind 0 or 1 with at most 8 bytes");
        AutoIndenter x = Check.withLines("abcdefgh", "abcdefgx", "abcdefg", "abcdefghi", "Abcdefgh");
        Check.due("8 bytes", Check.starter(x, 0, "abcdefgh", 0, 1), 0);
        Check.due("the lines that it applies to", Check.wantedOfAll(x), "4 0 0 0 0");
        Check.due("9 bytes", Check.starter(x, 1, "abcdefghi", 0, 1), -18);
        Check.due("1 byte of kind 1", Check.starter(x, 1, "~", 0, 1), 0);
        Check.due("2 bytes of kind 1", Check.starter(x, 1, "++", 0, 1), -11);
        Check.due("a pair of 8 and 8 bytes", Check.pair(x, 2, "abcdefgh abcdefgx", 0, 0, 0, 0), 0);
        Check.due("what it closes", x.closedBy(0, 0), 100);
        Check.says(0, "the rule applies to tokens of these kinds with the same text");
        x = Check.withLines("\"a\"", "a", "aa", "A", Q3 + "a" + Q3, "# a");
        Check.starter(x, 0, "a", 0, 1);
        Check.due("starters of strings, literals and comments", Check.wantedOfAll(x), "0 4 0 0 0 0");
        x = Check.withLines("\"+\"", "b", "+", "c");
        Check.joiner(x, 0, "+", 0, 1);
        Check.due("joiners of strings", Check.wantedOfAll(x), "0 0 0 4");
        x = Check.withLines("\"(\"", "b", "(", "\")\"", ")", "c");
        Check.pair(x, 0, "()", 0, 1, 0, 0);
        Check.due("pairs of strings", Check.wantedOfAll(x), "0 0 0 4 0 0");
        Check.due("strays()", x.strays(), 0);
    }

    private static void stepsAndModes() {
        Check.says(0, "A pair has an opening text, a closing text, steps from 0 to 4, a mode (0 for steps, 1 for aligned),"
                + " and a closing mode (0, 1 or 2).");
        for (int mode = 0; mode < 2; mode++) {
            for (int closing = 0; closing < 3; closing++) {
                for (int steps = 0; steps < 5; steps++) {
                    AutoIndenter x = Check.withLines("  a ( b", "c", ")");
                    Check.due("pair", Check.pair(x, 0, "()", 0, steps, mode, closing), 0);
                    int column = mode == 1 ? 6 : 2 + 4 * steps;
                    Check.due("wanted(1), mode " + mode + ", steps " + steps, x.wanted(1), column);
                    int closer = closing == 0 ? 2 : closing == 1 ? column : 4;
                    Check.due("wanted(2), closing mode " + closing, x.wanted(2), closer);
                }
            }
        }
        wrongPair("steps -1", x -> x.pair(0, 0, -1, 0, 0));
        wrongPair("steps 5", x -> x.pair(0, 0, 5, 0, 0));
        wrongPair("mode -1", x -> x.pair(0, 0, 0, -1, 0));
        wrongPair("mode 2", x -> x.pair(0, 0, 0, 2, 0));
        wrongPair("closing mode -1", x -> x.pair(0, 0, 0, 0, -1));
        wrongPair("closing mode 3", x -> x.pair(0, 0, 0, 0, 3));
        Check.says(0, "A starter has a text and steps from -4 to 4.");
        for (int steps = -4; steps <= 4; steps++) {
            AutoIndenter x = Check.withLines("a");
            x.setBase(17);
            Check.due("starter", Check.starter(x, 0, "a", 0, steps), 0);
            Check.due("wanted(0), steps " + steps, x.wanted(0), 17 + 4 * steps);
        }
        Check.refused("starter, steps -5", () -> Check.buffered(Check.some(), "a"), x -> x.starter(3, 0, -5), BAD);
        Check.refused("starter, steps 5", () -> Check.buffered(Check.some(), "a"), x -> x.starter(3, 0, 5), BAD);
        Check.says(0, "A joiner has a text and steps from -4 to 4.");
        for (int steps = -4; steps <= 4; steps++) {
            AutoIndenter x = Check.withLines("+", "a");
            x.setBase(17);
            Check.due("joiner", Check.joiner(x, 0, "+", 0, steps), 0);
            Check.due("wanted(1), steps " + steps, x.wanted(1), 17 + 4 * steps);
        }
        Check.refused("joiner, steps -5", () -> Check.buffered(Check.some(), "a"), x -> x.joiner(11, 0, -5), BAD);
        Check.refused("joiner, steps 5", () -> Check.buffered(Check.some(), "a"), x -> x.joiner(11, 0, 5), BAD);
    }

    private static void wrongPair(String what, Check.Call run) {
        Check.refused("pair, " + what, () -> Check.buffered(Check.some(), "()"), run, BAD);
    }

    private static void severalRules() {
        Check.says(0, "Of several rules of the same sort that apply to a token, the one with the greatest precedence is"
                + " used, and among these the one with the smallest number.");
        AutoIndenter x = Check.withLines("a", "a");
        Check.starter(x, 11, "a", 3, 1);
        Check.due("one starter", x.decidingRule(0), 11);
        Check.starter(x, 0, "a", 2, 1);
        Check.due("a smaller number, but a smaller precedence", x.decidingRule(0), 11);
        Check.starter(x, 5, "a", 3, 1);
        Check.due("the same precedence and a smaller number", x.decidingRule(0), 5);
        Check.starter(x, 6, "a", 3, 1);
        Check.due("the same precedence and a greater number", x.decidingRule(0), 5);
        Check.starter(x, 10, "a", 4, 1);
        Check.due("a greater precedence", x.decidingRule(0), 10);
        Check.joiner(x, 1, "a", 4, 2);
        Check.due("another sort has no part in it", x.decidingRule(1), 10);
        Check.joiner(x, 1, "a", 5, 2);
        Check.joiner(x, 2, "a", 5, 2);
        Check.due("two joiners", x.decidingRule(1), 1);
        x = Check.withLines("(");
        Check.pair(x, 11, "( x", 9, 0, 0, 0);
        Check.pair(x, 10, "( y", 9, 0, 0, 0);
        Check.pair(x, 0, "( z", 8, 0, 0, 0);
        Check.starter(x, 1, "(", 9, 0);
        Check.due("pairs", x.blockRule(1, 0), 10);
        Check.due("one block is opened", x.depth(1), 1);
    }

    private static void emptyStack() {
        Check.says(0, "The tokens of all lines are gone through in their order, with a stack of open blocks, which is empty"
                + " at first.");
        AutoIndenter x = Check.withLines(") (", ") (");
        Check.pair(x, 0, "()", 0, 0, 0, 0);
        Check.due("depth(0)", x.depth(0), 0);
        Check.due("openedBy(0, 0)", x.openedBy(0, 0), NONE);
        Check.due("openedBy(1, 0)", x.openedBy(1, 0), 1);
        Check.due("depth(2)", x.depth(2), 1);
    }

    private static void topmostBlock() {
        Check.says(0, "The topmost block in the stack whose pair has this token as its closing text is considered, if there"
                + " is one.");
        AutoIndenter x = Check.withLines("{ ( (", ";", ";", ";", ";");
        Check.pair(x, 0, "{ ;", 1, 0, 0, 0);
        Check.pair(x, 1, "( ;", 1, 0, 0, 0);
        Check.due("the topmost of three", x.openedBy(1, 0), 2);
        Check.due("the topmost of two", x.openedBy(2, 0), 1);
        Check.due("the last one", x.openedBy(3, 0), 0);
        Check.due("there is none", x.openedBy(4, 0), NONE);
        Check.says(0, "Otherwise the token closes nothing.");
        x = Check.withLines("{ ( [ ;");
        Check.pair(x, 0, "{ ;", 9, 0, 0, 0);
        Check.pair(x, 1, "( ;", 5, 0, 0, 0);
        Check.pair(x, 2, "[ ]", 5, 0, 0, 0);
        Check.due("the one below it is not considered", x.openedBy(0, 3), NONE);
        Check.due("all stay open", x.depth(1), 3);
        Check.due("the token is stray", x.strays(), 1);
        Check.pair(x, 2, "[ ]", 4, 0, 0, 0);
        Check.due("a weaker block above", x.openedBy(0, 3), 1);
        Check.due("one stays open", x.depth(1), 1);
    }

    private static void blocksAbove() {
        Check.says(0, "If the pair of each block above it has a smaller precedence than its own pair, the token closes it:"
                + " it and all blocks above it are removed from the stack (those above it are lost).");
        for (int precedence = 0; precedence <= 9; precedence++) {
            AutoIndenter x = Check.withLines("{ ( }");
            Check.pair(x, 0, "{}", 5, 0, 0, 0);
            Check.pair(x, 1, "()", precedence, 0, 0, 0);
            boolean smaller = precedence < 5;
            Check.due("openedBy(0, 2), above " + precedence, x.openedBy(0, 2), smaller ? 0 : NONE);
            Check.due("depth(1), above " + precedence, x.depth(1), smaller ? 0 : 2);
            Check.due("lost(), above " + precedence, x.lost(), smaller ? 1 : 0);
            Check.due("strays(), above " + precedence, x.strays(), smaller ? 0 : 1);
        }
        AutoIndenter x = Check.withLines("{ [ ( ( }");
        Check.pair(x, 0, "{}", 5, 0, 0, 0);
        Check.pair(x, 1, "()", 4, 0, 0, 0);
        Check.pair(x, 2, "[]", 5, 0, 0, 0);
        Check.due("one of three is not smaller", x.openedBy(0, 4), NONE);
        Check.pair(x, 2, "[]", 0, 0, 0, 0);
        Check.due("all three are smaller", x.openedBy(0, 4), 0);
        Check.due("lost()", x.lost(), 3);
        Check.due("depth(1)", x.depth(1), 0);
        x = Check.withLines("{ { }");
        Check.pair(x, 0, "{}", 0, 0, 0, 0);
        Check.due("below it there may be any block", x.openedBy(0, 2), 1);
    }

    private static void twelveBlocks() {
        Check.says(0, "If the token is the opening text of a pair, and there are fewer than 12 open blocks, it opens a block"
                + " with this pair, which is put on the stack.");
        for (int n = 0; n <= 14; n++) {
            AutoIndenter x = Check.withLines("(".repeat(n));
            Check.pair(x, 0, "()", 0, 0, 0, 0);
            Check.due(n + " opening tokens", x.depth(1), Math.min(n, 12));
        }
        AutoIndenter x = Check.withLines("(".repeat(13), ")".repeat(13));
        Check.pair(x, 0, "()", 0, 0, 0, 0);
        Check.due("the 12th is closed first", x.openedBy(1, 0), 11);
        Check.due("the 13th opens nothing", x.closedBy(0, 12), NONE);
        Check.due("the 13th closer closes nothing", x.openedBy(1, 12), NONE);
        Check.due("strays()", x.strays(), 1);
        x = Check.withLines("(".repeat(11) + "|", "|", "|");
        Check.pair(x, 0, "()", 0, 0, 0, 0);
        Check.pair(x, 1, "||", 0, 0, 0, 0);
        Check.due("closing makes room for opening", x.depth(2), 12);
        Check.due("openedBy(1, 0)", x.openedBy(1, 0), 11);
        Check.due("closedBy(1, 0)", x.closedBy(1, 0), 200);
        x = Check.withLines("(".repeat(12), "|", ")", "|");
        Check.pair(x, 0, "()", 0, 0, 0, 0);
        Check.pair(x, 1, "||", 0, 0, 0, 0);
        Check.due("a closer that closes nothing finds no room", x.depth(2), 12);
        Check.due("strays()", x.strays(), 2);
        Check.due("behind a closed block there is room", x.blockRule(4, 11), 1);
    }

    private static int contentColumnOf(String line, int steps) {
        AutoIndenter x = Check.withLines(line);
        Check.pair(x, 0, "()", 0, steps, 1, 0);
        return x.contentColumn(1, 0);
    }

    private static void alignedContentColumn() {
        Check.says(0, "The content column of a block is, if the mode of its pair is 1 and another token (of any kind) follows"
                + " its opening token in the same line, the column of the next token");
        Check.due("a word", contentColumnOf("  ( a b", 3), 4);
        Check.due("directly behind it", contentColumnOf("  (a b", 3), 3);
        Check.due("far behind it", contentColumnOf("(" + " ".repeat(30) + "a", 3), 31);
        Check.due("another byte", contentColumnOf("  ( + b", 3), 4);
        Check.due("a string", contentColumnOf("  ( \"a\" b", 3), 4);
        Check.due("a literal", contentColumnOf("  ( " + Q3, 3), 4);
        Check.due("an opening token", contentColumnOf("  ( (", 3), 4);
        Check.due("nothing", contentColumnOf("  (", 3), 14);
        Check.due("a comment", contentColumnOf("  ( # a", 3), 14);
        Check.due("a token before it", contentColumnOf("  a (", 3), 14);
        Check.due("beyond 40, for this is no limit here", contentColumnOf(" ".repeat(40) + "( a", 3), 42);
        AutoIndenter x = Check.withLines("  (", "a");
        Check.pair(x, 0, "()", 0, 3, 1, 0);
        Check.due("a token in the next line", x.contentColumn(2, 0), 14);
        x = Check.withLines("  ( a");
        Check.pair(x, 0, "()", 0, 3, 0, 0);
        Check.due("mode 0", x.contentColumn(1, 0), 14);
    }

    private static void contentColumnBySteps() {
        Check.says(0, "otherwise the indentation of the line of its opening token plus the steps of the pair times the step,"
                + " but at most 40");
        int[][] due = {{0, 0, 1, 0}, {7, 4, 8, 39}, {8, 4, 8, 40}, {9, 4, 8, 40}, {40, 4, 8, 40}, {40, 0, 8, 40},
            {39, 1, 1, 40}, {40, 1, 1, 40}, {0, 4, 8, 32}};
        for (int[] d : due) {
            AutoIndenter x = Check.withLines(" ".repeat(d[0]) + "aaaa (");
            Check.pair(x, 0, "()", 0, d[1], 0, 0);
            x.setStep(d[2]);
            String what = "indentation " + d[0] + ", steps " + d[1] + ", step " + d[2];
            Check.due(what, x.contentColumn(1, 0), d[3]);
        }
    }
}
