/** The section "Terms": wanted indentations and indenting anew, each sentence at its edges. */
public final class TermsOfWantedTest {
    private static final String Q3 = "\"\"\"";

    public static void main(String[] args) {
        whereItIsDefined();
        leadingClosers();
        closersThatOpen();
        closedBlock();
        ground();
        groundWithoutOwnBlock();
        baseAsGround();
        candidateOfClosedBlock();
        candidateOfStarter();
        candidateOfJoiner();
        candidateOfGround();
        greatestPrecedence();
        atLeast0AndAtMost40();
        actualIndentations();
        indentingAnew();
        indentingTwice();
        Check.finish();
    }

    private static void wantedAre(String what, AutoIndenter x, String due) {
        Check.due(what, Check.wantedOfAll(x), due);
    }

    private static AutoIndenter braces(String... lines) {
        AutoIndenter x = Check.withLines(lines);
        Check.pair(x, 0, "{}", 5, 1, 0, 0);
        Check.pair(x, 1, "()", 5, 2, 0, 0);
        return x;
    }

    private static void whereItIsDefined() {
        Check.says(0, "It is defined for each line that is neither blank nor protected.");
        AutoIndenter x = Check.withLines("", "#", "# c", "\"", Q3, "", "a", Q3 + "b", "c");
        wantedAre("lines of all sorts", x, "-9 0 0 0 0 -9 -9 -9 0");
        x.pin(8);
        Check.due("a pinned line", x.wanted(8), 0);
    }

    private static void leadingClosers() {
        Check.says(0, "The leading closers of the line are its first tokens, as long as each of them closes a block");
        wantedAre("none", braces(" {", "  (", "a"), "0 5 10");
        wantedAre("one", braces(" {", "  (", ")", "a"), "0 5 2 5");
        wantedAre("two", braces(" {", "  (", ")}", "a"), "0 5 1 0");
        wantedAre("two, and one that closes nothing", braces(" {", "  (", ")})", "a"), "0 5 1 0");
        wantedAre("one, and one behind another token", braces(" {", "  (", ")a}", "a"), "0 5 2 0");
        wantedAre("one behind another token", braces(" {", "  (", "a)", "a"), "0 5 10 5");
        wantedAre("one behind a string", braces(" {", "  (", "\"\")", "a"), "0 5 10 5");
        wantedAre("one in a comment", braces(" {", "  (", "#)", "a"), "0 5 10 10");
        wantedAre("one that closes nothing", braces(" {", "  (", "})", "a"), "0 5 10 5");
        wantedAre("one behind an opening token", braces(" {", "  (", "( ) )", "a"), "0 5 10 5");
        AutoIndenter x = braces("{".repeat(12), "}".repeat(12), "a");
        x.setBase(3);
        wantedAre("twelve", x, "3 0 3");
    }

    private static void closersThatOpen() {
        Check.says(0, "they end behind a token that also opens a block");
        AutoIndenter x = braces(" {", "  |", "| }", "a");
        Check.pair(x, 2, "||", 4, 3, 0, 0);
        wantedAre("the closer behind it is none of them", x, "0 5 2 0");
        Check.due("reason(2)", x.reason(2), 3);
        Check.due("decidingRule(2)", x.decidingRule(2), 2);
        x = braces(" {", "  |", "    (", ") | }", "a");
        Check.pair(x, 2, "||", 4, 3, 0, 0);
        wantedAre("the second one opens", x, "0 5 14 2 0");
        x = braces(" {", "  |", "    (", ") } |", "a");
        Check.pair(x, 2, "||", 4, 3, 0, 0);
        wantedAre("an opener behind them is none of them", x, "0 5 14 1 12");
    }

    private static void closedBlock() {
        Check.says(0, "Let the closed block be the one that the last leading closer closes (not those above it that are"
                + " lost)");
        AutoIndenter x = Check.withLines(" {", "  (", "   [", "}", "a");
        Check.pair(x, 0, "{}", 5, 1, 0, 0);
        Check.pair(x, 1, "()", 4, 2, 0, 0);
        Check.pair(x, 2, "[]", 3, 3, 0, 0);
        wantedAre("two lost blocks above it", x, "0 5 10 1 0");
        Check.due("decidingRule(3)", x.decidingRule(3), 0);
        Check.put(x, ")");
        x.replaceLine(3);
        wantedAre("one lost block above it", x, "0 5 10 2 5");
        Check.due("decidingRule(3)", x.decidingRule(3), 1);
        Check.put(x, "]}");
        x.replaceLine(3);
        wantedAre("one is closed, and one lost", x, "0 5 10 1 0");
    }

    private static void ground() {
        Check.says(0, "let the ground be the content column of the topmost block that is open after the leading closers");
        AutoIndenter x = braces(" {", "  (", "   (", ")", "b");
        Check.starter(x, 3, ")", 9, -1);
        wantedAre("a starter behind one leading closer", x, "0 5 10 6 10");
        Check.put(x, "))");
        x.replaceLine(3);
        wantedAre("a starter behind two", x, "0 5 10 1 5");
        Check.put(x, "))}");
        x.replaceLine(3);
        wantedAre("a starter behind three", x, "0 5 10 0 0");
        Check.put(x, ")a)");
        x.replaceLine(3);
        wantedAre("a closer behind them counts for the next line alone", x, "0 5 10 6 5");
    }

    private static void groundWithoutOwnBlock() {
        Check.says(0, "where a block that the last leading closer opens itself is left out");
        AutoIndenter x = braces(" {", "  |", "|", "a");
        Check.pair(x, 2, "||", 4, 3, 0, 0);
        Check.starter(x, 3, "|", 9, 2);
        wantedAre("the ground of both | is the one of {", x, "0 13 13 12");
        x.removeLine(0);
        wantedAre("the ground of both | is the base", x, "8 8 12");
        x.setBase(1);
        wantedAre("the ground of both | is the base", x, "9 9 12");
        x = Check.withLines("  {", " {");
        Check.pair(x, 0, "{}", 0, 1, 0, 0);
        wantedAre("a token that only opens plays no part in its line", x, "0 6");
    }

    private static void baseAsGround() {
        Check.says(0, "the ground is the base if there is no such block");
        for (int base : new int[] {0, 1, 20}) {
            AutoIndenter x = braces("{", "}", "a");
            x.setBase(base);
            Check.starter(x, 3, "}", 9, 1);
            wantedAre("base " + base, x, base + " " + (base + 4) + " " + base);
        }
    }

    private static void candidateOfClosedBlock() {
        Check.says(0, "the column is, for closing mode 0, the indentation of the line of the opening token; for 1, the"
                + " content column of the block; for 2, the column of the opening token;");
        int[][] due = {{3, 11, 6}, {3, 8, 6}};
        for (int mode = 0; mode < 2; mode++) {
            for (int closing = 0; closing < 3; closing++) {
                AutoIndenter x = Check.withLines("   ab { c", "}");
                Check.pair(x, 0, "{}", 0, 2, mode, closing);
                Check.due("mode " + mode + ", closing mode " + closing, x.wanted(1), due[mode][closing]);
            }
        }
        int[] far = {40, 40, 40};
        for (int closing = 0; closing < 3; closing++) {
            AutoIndenter x = Check.withLines(" ".repeat(40) + "ab { c", "}");
            Check.pair(x, 0, "{}", 0, 2, 1, closing);
            Check.due("far right, closing mode " + closing, x.wanted(1), far[closing]);
        }
    }

    private static void candidateOfStarter() {
        Check.says(0, "by a starter, if one applies to the first token of the line: the ground plus the steps of the starter"
                + " times the step;");
        AutoIndenter x = braces(" {", "a", "b a", "\"a\"", "# a", "aa", "a } a");
        Check.starter(x, 3, "a", 0, 2);
        wantedAre("the first token alone", x, "0 13 5 5 5 5 13");
        x = Check.withLines("#", "a", "# a", "a");
        Check.starter(x, 0, "a", 0, 1);
        wantedAre("a line without tokens before a starter", x, "0 4 0 4");
    }

    private static void candidateOfJoiner() {
        Check.says(0, "by a joiner, if the line has tokens");
        AutoIndenter x = Check.withLines("+", "#", "a");
        Check.joiner(x, 0, "+", 0, 1);
        wantedAre("a line without tokens is not joined", x, "0 0 4");
        Check.says(0, "the last token before this line (in the nearest line before it that has tokens) opens no block, and a"
                + " joiner applies to it: the ground plus the steps of the joiner times the step;");
        x = Check.withLines("+ # +", "", "# +", "   ", "a", "+ b", "c", "\"+\"", "d", "+ " + Q3, "e" + Q3, "f");
        Check.joiner(x, 0, "+", 0, 1);
        wantedAre("the last token in the nearest line", x, "0 -9 0 -9 4 0 0 0 0 0 -9 0");
        x = Check.withLines(Q3, Q3 + "+", "a");
        Check.joiner(x, 0, "+", 0, 1);
        wantedAre("a joiner in a protected line", x, "0 -9 4");
        x = Check.withLines("a");
        Check.joiner(x, 0, "a", 9, 1);
        wantedAre("nothing before the first line", x, "0");
        x = braces("{", "a");
        Check.joiner(x, 3, "{", 9, 4);
        wantedAre("a token that opens a block", x, "0 4");
        x = braces("{".repeat(12), "a");
        Check.joiner(x, 3, "{", 9, 4);
        wantedAre("the 12th of such tokens", x, "0 4");
        x = braces("{".repeat(13), "a");
        Check.joiner(x, 3, "{", 9, 4);
        wantedAre("the 13th, which opens no block", x, "0 20");
        x = braces("{", "} ", "a");
        Check.joiner(x, 3, "}", 9, 4);
        wantedAre("a token that closes a block", x, "0 0 16");
    }

    private static void candidateOfGround() {
        Check.says(0, "the ground itself, with the precedence -1.");
        AutoIndenter x = Check.withLines("{ +", "a", "}");
        Check.pair(x, 0, "{}", 0, 1, 0, 2);
        Check.due("the ground by itself", x.reason(1), 1);
        Check.starter(x, 1, "a", 0, 0);
        Check.due("a starter with precedence 0", x.reason(1), 4);
        x.undo();
        Check.joiner(x, 1, "+", 0, 0);
        Check.due("a joiner with precedence 0", x.reason(1), 5);
        Check.due("a closed block with precedence 0", x.reason(2), 3);
    }

    private static void greatestPrecedence() {
        Check.says(0, "The candidate with the greatest precedence decides, and among equal ones the one that stands first"
                + " here.");
        for (int p = 0; p < 3; p++) {
            for (int s = 0; s < 3; s++) {
                for (int j = 0; j < 3; j++) {
                    AutoIndenter x = Check.withLines("{ +", "}");
                    Check.pair(x, 0, "{}", 4 + p, 1, 0, 0);
                    Check.starter(x, 1, "}", 4 + s, 2);
                    Check.joiner(x, 2, "+", 4 + j, 3);
                    int due = p >= s && p >= j ? 3 : s >= j ? 4 : 5;
                    String what = "pair " + p + ", starter " + s + ", joiner " + j;
                    Check.due(what, x.reason(1), due);
                    Check.due(what, x.decidingRule(1), due - 3);
                    Check.due(what, x.wanted(1), due == 3 ? 0 : due == 4 ? 8 : 12);
                }
            }
        }
        AutoIndenter x = Check.withLines("{ +", "}");
        Check.pair(x, 11, "{}", 4, 1, 0, 0);
        Check.starter(x, 10, "}", 4, 2);
        Check.joiner(x, 0, "+", 4, 3);
        Check.due("the number of a rule does not count among sorts", x.decidingRule(1), 11);
    }

    private static void starterAt(int base, int step, int steps, int due) {
        AutoIndenter x = Check.withLines("a");
        Check.starter(x, 0, "a", 0, steps);
        x.setStep(step);
        x.setBase(base);
        Check.due("base " + base + ", step " + step + ", steps " + steps, x.wanted(0), due);
    }

    private static void atLeast0AndAtMost40() {
        Check.says(0, "The wanted indentation is its column, but at least 0 and at most 40.");
        starterAt(8, 8, -1, 0);
        starterAt(9, 8, -1, 1);
        starterAt(7, 8, -1, 0);
        starterAt(0, 1, -1, 0);
        starterAt(0, 8, -4, 0);
        starterAt(20, 8, -4, 0);
        starterAt(7, 8, 4, 39);
        starterAt(8, 8, 4, 40);
        starterAt(9, 8, 4, 40);
        starterAt(20, 5, 4, 40);
        starterAt(20, 8, 4, 40);
        for (int indent = 36; indent <= 40; indent++) {
            AutoIndenter x = Check.withLines(" ".repeat(indent) + "{ a", "b", "c", "} +", "d");
            Check.pair(x, 0, "{}", 0, 1, 1, 1);
            Check.starter(x, 1, "c", 0, -1);
            Check.joiner(x, 2, "+", 0, 4);
            int column = Math.min(40, indent + 2);
            wantedAre("aligned at " + indent, x, "0 " + column + " " + (indent - 2) + " " + column + " 16");
        }
        AutoIndenter x = Check.withLines(" ".repeat(40) + "a".repeat(30) + "{b", "c", "d");
        Check.pair(x, 0, "{}", 0, 1, 1, 1);
        Check.starter(x, 1, "c", 0, -4);
        x.setStep(8);
        wantedAre("the greatest ground, 71", x, "0 39 40");
    }

    private static void actualIndentations() {
        Check.says(0, "All indentations in this are the actual ones of the lines at the time of the question.");
        AutoIndenter x = braces("   {", " (", "a", ")", "}");
        wantedAre("they are not those that are wanted", x, "0 7 9 1 3");
        x.shift(0, 1, 37);
        wantedAre("behind shift()", x, "0 40 9 1 40");
        x.pin(0);
        x.shift(1, 2, 39);
        wantedAre("behind shift(), pinned", x, "0 40 40 40 40");
        x.shift(2, 5, 11);
        wantedAre("the own one and later ones do not count", x, "0 40 40 40 40");
    }

    private static void indentingAnew() {
        Check.says(0, "To indent a range of lines anew means: from its first line to its last one, each line that is neither"
                + " blank nor protected nor pinned gets its wanted indentation, before the next line is looked at.");
        AutoIndenter x = braces(" {", "{", "{", "a", "}", "}", "}");
        Check.due("reindent(0, 7)", x.reindent(0, 7), 6);
        Check.due("each line follows those before it", Check.allLines(x), "{|    {|        {|            a|        }|    }|}|");
        x = braces(" {", "  {", "a", "}", "}");
        x.pin(1);
        Check.due("reindent(0, 5)", x.reindent(0, 5), 3);
        Check.due("a pinned line is followed too", Check.allLines(x), "{|*  {|      a|  }|}|");
        x = braces("   " + Q3, " " + Q3 + "{", "", "a", "}");
        Check.due("reindent(0, 5)", x.reindent(0, 5), 3);
        Check.due("a protected line is followed too", Check.allLines(x), Q3 + "| " + Q3 + "{||     a| }|");
        x = braces(" {", " {", " {", "a");
        Check.due("reindent(1, 3)", x.reindent(1, 3), 2);
        Check.due("lines outside of the range stay", Check.allLines(x), " {|     {|         {|a|");
        x = braces(" {", "a");
        Check.due("reindent(0, 1), a range of one line", x.reindent(0, 1), 1);
        Check.due("the lines", Check.allLines(x), "{|a|");
        Check.due("reindent(1, 2), the last line", x.reindent(1, 2), 1);
        Check.due("the lines", Check.allLines(x), "{|    a|");
    }

    private static void indentingTwice() {
        Check.says(0, "gets its wanted indentation, before the next line is looked at");
        for (int seed = 0; seed < 60; seed++) {
            AutoIndenter x = braces();
            Check.pair(x, 2, "[ ]", seed % 10, 1, 1, seed % 3);
            Check.pair(x, 3, "begin end", seed / 10, 4, 0, 2);
            Check.starter(x, 4, "case", seed % 7, -2);
            Check.joiner(x, 5, "+", seed % 5, 4);
            x.draw(seed, 12);
            x.draw(-seed, 8);
            x.pin(seed % 20);
            int would = x.wouldChange();
            Check.due("reindent(0, 20) of " + seed, x.reindent(0, 20), Integer.bitCount(would));
            Check.due("a second time of " + seed, x.reindent(0, 20), 0);
            Check.due("wouldChange() behind it of " + seed, x.wouldChange(), 0);
        }
    }
}
