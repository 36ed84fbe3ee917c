/** "What it is", and the first paragraph of the section "Terms": what the class does as a whole. */
public final class OverviewTest {
    private static final int NONE = AutoIndenter.NONE, STATE = AutoIndenter.STATE;
    private static final int SEEDS = 300;

    public static void main(String[] args) {
        calls512();
        threeSorts();
        secondTimeChangesNothing();
        actualIndentationsBefore();
        stringsAndLiterals();
        tellsWhy();
        bestStepAndBase();
        matchesAndCounts();
        editsWithUndo();
        Check.finish();
    }

    /** Random lines under rules of all sorts. */
    private static AutoIndenter drawn(int seed) {
        AutoIndenter x = new AutoIndenter();
        Check.pair(x, 0, "()", 3 + seed % 3, 1 + seed % 2, 1, seed % 3);
        Check.pair(x, 1, "{}", 5, 1, 0, seed / 3 % 3);
        Check.pair(x, 2, "begin end", 4, 2, seed % 2, 1);
        Check.pair(x, 3, "[]", seed % 10, 3, 1, 2);
        Check.starter(x, 4, "case", seed % 7, -1);
        Check.joiner(x, 5, "+", seed % 8, 1);
        Check.joiner(x, 6, ",", 0, 2);
        x.setBase(seed % 5);
        x.setStep(1 + seed % 8);
        x.draw(seed, 12);
        x.draw(-seed, 8);
        x.pin(seed % 20);
        return x;
    }

    private static void calls512() {
        Check.says(0, "An auto-indenter for program text.",
                "An object is used for at most 512 calls after it has been made");
        AutoIndenter x = new AutoIndenter();
        x.type('(');
        x.type(')');
        x.pair(0, 5, 1, 0, 0);
        for (int round = 0; round < 169; round++) {
            Check.due("draw in round " + round, x.draw(round, 12), round == 0 ? 12 : round == 1 ? 8 : 0);
            int changed = Integer.bitCount(x.wouldChange());
            Check.due("reindent in round " + round, x.reindent(0, 12 + Math.min(8, 8 * round)), changed);
        }
        Check.due("lines(), the call 511", x.lines(), 20);
        Check.due("undo(), the call 512", x.undo(), 7);
    }

    private static void threeSorts() {
        Check.says(0, "Rules say which tokens open and close blocks, which tokens move the line that begins with them,"
                + " and which tokens continue a statement on the next line; the rules have precedences.");
        AutoIndenter x = Check.withLines("do", "a", "else b", "c +", "d", "else", "od", "e");
        Check.due("without rules", Check.wantedOfAll(x), "0 0 0 0 0 0 0 0");
        Check.pair(x, 0, "do od", 5, 1, 0, 0);
        Check.due("with a pair", Check.wantedOfAll(x), "0 4 4 4 4 4 0 0");
        Check.starter(x, 1, "else", 3, -1);
        Check.due("with a starter", Check.wantedOfAll(x), "0 4 0 4 4 0 0 0");
        Check.joiner(x, 2, "+", 2, 2);
        Check.due("with a joiner", Check.wantedOfAll(x), "0 4 0 4 12 0 0 0");
        Check.joiner(x, 3, "else", 6, 3);
        Check.due("with a joiner before the closing token", Check.wantedOfAll(x), "0 4 0 4 12 0 12 0");
        Check.joiner(x, 3, "else", 5, 3);
        Check.due("with one that is not stronger", Check.wantedOfAll(x), "0 4 0 4 12 0 0 0");
    }

    private static void secondTimeChangesNothing() {
        Check.says(0, "The class divides lines into tokens, follows the open blocks through the lines",
                "indents ranges of lines anew (doing so a second time changes nothing)");
        for (int seed = 1; seed <= SEEDS; seed++) {
            AutoIndenter x = drawn(seed);
            int from = seed % 9;
            int to = 20 - seed % 7;
            x.reindent(from, to);
            String once = Check.allLines(x);
            Check.due("the second reindent with seed " + seed, x.reindent(from, to), 0);
            Check.due("the lines with seed " + seed, Check.allLines(x), once);
            x.reindent(0, 20);
            Check.due("wouldChange() with seed " + seed, x.wouldChange(), 0);
        }
    }

    private static void actualIndentationsBefore() {
        Check.says(0, "computes the wanted indentation of each line from the actual indentations of the lines before it");
        for (int seed = 1; seed <= SEEDS; seed++) {
            AutoIndenter x = drawn(seed);
            int i = seed % 20;
            int wanted = x.wanted(i);
            x.shift(i, 20, 7);
            Check.due("wanted(" + i + ") with other indentations from there on", x.wanted(i), wanted);
            x.shift(0, i, 3);
            boolean onLines = x.reason(i) != NONE && x.depth(i) > 0 && x.decidingRule(i) < 4 && x.reason(i) != 0;
            if (onLines && wanted <= 37) {
                Check.due("wanted(" + i + ") with lines before that are moved", x.wanted(i), wanted + 3);
            }
        }
    }

    private static void stringsAndLiterals() {
        Check.says(0, "leaves strings and literal blocks alone");
        AutoIndenter x = Check.withLines("(", " \"  )  (  \" \"\"\" (", "     x  (", "  )", " \"\"\" y", "   )");
        Check.pair(x, 0, "()", 5, 1, 0, 0);
        Check.due("reindent(0, 6)", x.reindent(0, 6), 2);
        Check.due("the lines", Check.allLines(x), "(|    \"  )  (  \" \"\"\" (|     x  (|  )| \"\"\" y|)|");
        for (int seed = 1; seed <= SEEDS; seed++) {
            AutoIndenter y = drawn(seed);
            String[] before = new String[20];
            for (int i = 0; i < 20; i++) {
                boolean left = y.isProtected(i) == 1 || y.isPinned(i) == 1;
                before[i] = left ? Check.line(y, i) : Check.content(y, i);
            }
            y.reindent(0, 20);
            for (int i = 0; i < 20; i++) {
                boolean left = y.isProtected(i) == 1 || y.isPinned(i) == 1;
                Check.due("line " + i, left ? Check.line(y, i) : Check.content(y, i), before[i]);
            }
        }
    }

    private static void tellsWhy() {
        Check.says(0, "and tells why a line is to be indented as it is");
        AutoIndenter x = Check.withLines("a", "do", "b", "f( c", "d", ")", "else", "e +", "g", "od");
        Check.pair(x, 7, "do od", 5, 1, 0, 0);
        Check.pair(x, 8, "()", 5, 1, 1, 0);
        Check.starter(x, 9, "else", 3, -1);
        Check.joiner(x, 10, "+", 2, 2);
        int[] reasons = {0, 0, 1, 1, 2, 3, 4, 1, 5, 3};
        int[] rules = {NONE, NONE, 7, 7, 8, 8, 9, 7, 10, 7};
        for (int i = 0; i < reasons.length; i++) {
            Check.due("reason(" + i + ")", x.reason(i), reasons[i]);
            Check.due("decidingRule(" + i + ")", x.decidingRule(i), rules[i]);
        }
    }

    private static void bestStepAndBase() {
        Check.says(0, "It finds the step and the base with which the fewest lines would have to be changed");
        for (int step = 1; step <= 8; step++) {
            for (int base = 0; base <= 20; base += 5) {
                AutoIndenter x = Check.withLines("do", "a", "do", "b", "od", "od");
                Check.pair(x, 0, "do od", 5, 1, 0, 0);
                x.setStep(step);
                x.setBase(base);
                x.reindent(0, 6);
                x.setStep(9 - step);
                x.setBase(20 - base);
                Check.due("fewestChanges()", x.fewestChanges(), 0);
                Check.due("bestStep()", x.bestStep(), step);
                Check.due("bestBase()", x.bestBase(), base);
            }
        }
    }

    private static void matchesAndCounts() {
        Check.says(0, "matches opening and closing tokens, finds tokens that close nothing, counts tokens");
        for (int seed = 1; seed <= SEEDS; seed++) {
            AutoIndenter x = drawn(seed);
            int opened = 0;
            int closing = 0;
            for (int i = 0; i < 20; i++) {
                for (int k = 0; k < x.tokens(i); k++) {
                    int end = x.closedBy(i, k);
                    if (end != NONE) {
                        opened++;
                        Check.due("openedBy", x.openedBy(end / 100, end % 100), 100 * i + k);
                    }
                    closing += x.openedBy(i, k) == NONE ? 0 : 1;
                }
            }
            Check.due("blocks that are closed, and tokens that close one", opened, closing);
        }
        AutoIndenter x = Check.withLines(") ( a )", ") a ( a");
        Check.pair(x, 0, "()", 5, 1, 0, 0);
        Check.due("strays()", x.strays(), 2);
        Check.due("tokens(0)", x.tokens(0), 4);
        Check.due("vocabulary()", x.vocabulary(), 3);
        Check.due("commonestCount()", x.commonestCount(), 3);
        Check.due("commonestByte(0), which occurs first", x.commonestByte(0), ')');
    }

    private static void editsWithUndo() {
        Check.says(0, "and edits lines with undo");
        AutoIndenter x = Check.withLines(" a b", "  c");
        String before = Check.allLines(x);
        Check.put(x, "d");
        x.insertLine(1);
        x.replaceLine(0);
        x.removeLine(2);
        x.joinLines(0);
        x.splitLine(0, 1);
        x.shift(0, 2, 3);
        Check.due("the lines", Check.allLines(x), "   d|   d|");
        for (int left = 7; left >= 2; left--) {
            Check.due("undo()", x.undo(), left);
        }
        Check.due("the lines of before", Check.allLines(x), before);
        Check.due("undo()", x.undo(), 1);
        Check.due("undo()", x.undo(), 0);
        Check.due("lines()", x.lines(), 0);
        Check.due("undo()", x.undo(), STATE);
    }
}
