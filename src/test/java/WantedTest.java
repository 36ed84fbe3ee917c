/** Promises 25 to 32: wanted indentations. */
public final class WantedTest {
    public static void main(String[] args) {
        promise25WrongLines();
        promise25Ground();
        promise25ContentColumnBounds();
        promise25ClosingModes();
        promise25LeadingClosers();
        promise25CloserThatOpens();
        promise25LostBlocks();
        promise25Starter();
        promise25Joiner();
        promise25JoinerBehindOpener();
        promise25Precedences();
        promise25RulesOfOneSort();
        promise25Bounds();
        promise25ActualIndentations();
        promise26Reason();
        promise27DecidingRule();
        promise28WouldChange();
        promise29ChangesWith();
        promise30To32Best();
        promise30To32Edges();
        Check.finish();
    }

    private static void wantedAre(String what, AutoIndenter x, String due) {
        Check.due(what, Check.wantedOfAll(x), due);
    }

    private static void promise25WrongLines() {
        AutoIndenter x = Check.withLines("\"\"\"", "a", "", "\"\"\" b", "c");
        wantedAre("blank and protected lines", x, "0 -9 -9 -9 0");
        Check.due("wanted(5)", x.wanted(5), AutoIndenter.BAD);
        Check.due("wanted(-1)", x.wanted(-1), AutoIndenter.BAD);
        Check.due("wanted(0) of none", new AutoIndenter().wanted(0), AutoIndenter.BAD);
    }

    private static void promise25Ground() {
        AutoIndenter x = Check.withLines("  a (", "b", "{ # x", "c", "# d");
        Check.pair(x, 0, "()", 0, 2, 0, 0);
        Check.pair(x, 1, "{}", 0, 3, 1, 0);
        x.setBase(5);
        wantedAre("blocks within blocks", x, "5 10 10 12 12");
        Check.put(x, "{ x");
        x.replaceLine(2);
        wantedAre("an aligned block with a token behind", x, "5 10 10 2 2");
        Check.put(x, "{ \"x\"");
        x.replaceLine(2);
        wantedAre("any kind of token will do", x, "5 10 10 2 2");
    }

    private static void promise25ContentColumnBounds() {
        String indent = " ".repeat(38);
        AutoIndenter x = Check.withLines(indent + "f ( a", "b", "case");
        Check.pair(x, 0, "()", 0, 4, 1, 0);
        Check.starter(x, 1, "case", 0, -1);
        Check.due("contentColumn beyond 40", x.contentColumn(1, 0), 42);
        wantedAre("the column of a token is cut at the end only", x, "0 40 38");
        Check.pair(x, 0, "()", 0, 4, 0, 0);
        Check.due("contentColumn by steps", x.contentColumn(1, 0), 40);
        wantedAre("the column by steps is at most 40", x, "0 40 36");
    }

    private static void promise25ClosingModes() {
        String[] due = {"0 6 2", "0 6 6", "0 6 4"};
        for (int closing = 0; closing < 3; closing++) {
            AutoIndenter x = Check.withLines("  f (", "x", ")");
            Check.pair(x, 0, "()", 0, 1, 0, closing);
            wantedAre("closing mode " + closing, x, due[closing]);
        }
        AutoIndenter x = Check.withLines("  f ( a", "x", ")");
        Check.pair(x, 0, "()", 0, 1, 1, 1);
        wantedAre("closing mode 1 of an aligned block", x, "0 6 6");
    }

    private static void promise25LeadingClosers() {
        AutoIndenter x = Check.withLines("  {", "     [", "x", "] } ]", "y ]");
        Check.pair(x, 0, "{}", 0, 1, 0, 0);
        Check.pair(x, 1, "[]", 0, 2, 0, 0);
        wantedAre("the last leading closer counts", x, "0 6 13 2 0");
        Check.put(x, "] x }");
        x.replaceLine(3);
        wantedAre("the first other token ends them", x, "0 6 13 5 0");
        Check.put(x, "x ]");
        x.replaceLine(3);
        wantedAre("a closer behind another token is none of them", x, "0 6 13 13 6");
        Check.put(x, "\"x\" ]");
        x.replaceLine(3);
        wantedAre("nor behind a string", x, "0 6 13 13 6");
    }

    private static void promise25CloserThatOpens() {
        AutoIndenter x = Check.withLines("{", "  |", "| }", "z");
        Check.pair(x, 0, "{}", 1, 1, 0, 0);
        Check.pair(x, 1, "| |", 0, 2, 0, 0);
        wantedAre("the leading closers end behind |", x, "0 4 2 0");
        Check.due("reason(2)", x.reason(2), 3);
        Check.due("decidingRule(2)", x.decidingRule(2), 1);
        Check.starter(x, 2, "|", 5, 1);
        wantedAre("the block that | opens is left out of the ground", x, "0 8 8 0");
        x.dropRule(2);
        Check.put(x, "|");
        x.replaceLine(2);
        wantedAre("behind | a block is open again", x, "0 4 2 8");
    }

    private static void promise25LostBlocks() {
        AutoIndenter x = Check.withLines("  begin", "      (", "x", "end", "y");
        Check.pair(x, 0, "begin end", 5, 1, 0, 0);
        Check.pair(x, 1, "( )", 4, 1, 0, 0);
        wantedAre("the closed block counts, not the lost one", x, "0 6 10 2 0");
        Check.pair(x, 1, "( )", 5, 1, 0, 0);
        wantedAre("a block above with the same precedence holds it", x, "0 6 10 10 10");
    }

    private static void promise25Starter() {
        AutoIndenter x = Check.withLines("{", "case x", "x case", "} case", "case");
        Check.pair(x, 0, "{}", 3, 2, 0, 0);
        Check.starter(x, 1, "case", 4, -1);
        wantedAre("a starter moves the line that begins with it", x, "0 4 8 0 0");
        Check.starter(x, 2, "}", 4, 1);
        wantedAre("the ground of } is that behind it", x, "0 4 8 4 0");
        Check.starter(x, 2, "}", 3, 1);
        wantedAre("with the same precedence the closed block decides", x, "0 4 8 0 0");
    }

    private static void promise25Joiner() {
        AutoIndenter x = Check.withLines("a +", "", "# +", "b", "c + # d", "+ \"\"\" ", "e \"\"\"", "f");
        Check.joiner(x, 0, "+", 0, 1);
        wantedAre("a joiner reaches the next line with tokens", x, "0 -9 0 4 0 4 -9 0");
        x.setComment(0);
        wantedAre("without comments", x, "0 -9 4 4 0 0 -9 0");
    }

    private static void promise25JoinerBehindOpener() {
        AutoIndenter x = Check.withLines("(", "a", "( )", "b");
        Check.joiner(x, 0, "(", 9, 1);
        Check.joiner(x, 1, ")", 9, 2);
        wantedAre("joiners alone", x, "0 4 0 8");
        Check.pair(x, 2, "()", 0, 3, 0, 0);
        wantedAre("a token that opens a block joins nothing", x, "0 12 12 20");
    }

    private static void promise25Precedences() {
        AutoIndenter x = Check.withLines("{ +", ") ; +", "} x");
        Check.pair(x, 0, "{}", 2, 1, 0, 0);
        Check.starter(x, 1, "}", 2, 2);
        Check.joiner(x, 2, "+", 2, 3);
        Check.due("equal ones: the closed block", x.reason(2), 3);
        Check.starter(x, 1, "}", 3, 2);
        Check.joiner(x, 2, "+", 3, 3);
        Check.due("equal ones: the starter before the joiner", x.reason(2), 4);
        Check.due("wanted(2)", x.wanted(2), 8);
        Check.joiner(x, 2, "+", 4, 3);
        Check.due("the joiner with the greatest precedence", x.reason(2), 5);
        Check.due("wanted(2)", x.wanted(2), 12);
        Check.pair(x, 0, "{}", 5, 1, 0, 0);
        Check.due("the pair with the greatest precedence", x.reason(2), 3);
        Check.joiner(x, 2, "+", 0, 3);
        Check.due("a joiner of precedence 0 beats the ground", x.reason(1), 5);
    }

    private static void promise25RulesOfOneSort() {
        AutoIndenter x = Check.withLines("( a", "b", "case +", "c");
        Check.pair(x, 4, "( ]", 1, 1, 0, 0);
        Check.pair(x, 3, "( )", 2, 2, 0, 0);
        Check.pair(x, 5, "( }", 2, 3, 0, 0);
        Check.due("the pair with the greatest precedence and smallest number", x.blockRule(1, 0), 3);
        Check.starter(x, 9, "case", 4, 1);
        Check.starter(x, 8, "case", 4, 2);
        Check.starter(x, 7, "case", 3, 3);
        Check.due("the starter", x.decidingRule(2), 8);
        Check.joiner(x, 0, "+", 1, 1);
        Check.joiner(x, 1, "+", 2, 2);
        Check.joiner(x, 2, "+", 2, 3);
        Check.due("the joiner", x.decidingRule(3), 1);
        wantedAre("the wanted indentations", x, "0 8 16 16");
    }

    private static void promise25Bounds() {
        AutoIndenter x = Check.withLines("a", "b");
        Check.starter(x, 0, "a", 0, -1);
        Check.starter(x, 1, "b", 0, 4);
        x.setBase(9);
        x.setStep(8);
        wantedAre("at least 0 is 1 and at most 40", x, "1 40");
        x.setBase(7);
        wantedAre("at least 0", x, "0 39");
    }

    private static void promise25ActualIndentations() {
        AutoIndenter x = Check.withLines("   {", "     {", "y");
        Check.pair(x, 0, "{}", 0, 1, 0, 0);
        wantedAre("the actual indentations count", x, "0 7 9");
        x.shift(1, 2, 10);
        wantedAre("and they alone", x, "0 7 19");
    }

    private static void promise26Reason() {
        AutoIndenter x = Check.withLines("a", "{", "b", "{ c", "d +", "e", "} }", "case", "", "\"\"\"", "z");
        Check.pair(x, 0, "{}", 1, 1, 1, 0);
        Check.starter(x, 1, "case", 1, 1);
        Check.joiner(x, 2, "+", 1, 1);
        int[] due = {0, 0, 1, 1, 2, 5, 3, 4, -9, 0, -9};
        for (int i = 0; i < due.length; i++) {
            Check.due("reason(" + i + ")", x.reason(i), due[i]);
        }
        Check.due("reason(11)", x.reason(11), AutoIndenter.BAD);
        Check.due("reason(-1)", x.reason(-1), AutoIndenter.BAD);
    }

    private static void promise27DecidingRule() {
        AutoIndenter x = Check.withLines("a", "{", "b", "( c", "d +", "e", ") }", "case", "", "\"\"\"", "z");
        Check.pair(x, 3, "{}", 1, 1, 1, 0);
        Check.pair(x, 6, "()", 1, 1, 1, 0);
        Check.starter(x, 1, "case", 1, 1);
        Check.joiner(x, 11, "+", 1, 1);
        int[] due = {-9, -9, 3, 3, 6, 11, 3, 1, -9, -9, -9};
        for (int i = 0; i < due.length; i++) {
            Check.due("decidingRule(" + i + ")", x.decidingRule(i), due[i]);
        }
        Check.due("decidingRule(11)", x.decidingRule(11), AutoIndenter.BAD);
        Check.due("decidingRule(-1)", x.decidingRule(-1), AutoIndenter.BAD);
    }

    private static void promise28WouldChange() {
        AutoIndenter x = Check.withLines(" {", "    a", "     b", "", "     c", "}", " \"\"\"", "   d");
        Check.pair(x, 0, "{}", 1, 1, 0, 0);
        x.pin(4);
        Check.due("wouldChange() follows the changes", x.wouldChange(), 1 + 4 + 64);
        Check.due("nothing is changed", Check.allLines(x), " {|    a|     b||*     c|}| \"\"\"|   d|");
        Check.due("undo() is as before", x.undo(), 7);
        Check.due("wouldChange() without the pin", x.wouldChange(), 1 + 4 + 16 + 64);
        Check.due("wouldChange() of none", new AutoIndenter().wouldChange(), 0);
        AutoIndenter y = new AutoIndenter();
        Check.put(y, "a");
        while (y.lines() < 20) {
            y.insertLine(0);
        }
        y.setBase(1);
        Check.due("wouldChange() of 20 lines", y.wouldChange(), (1 << 20) - 1);
    }

    private static void promise29ChangesWith() {
        AutoIndenter x = Check.withLines("  {", "     a", "     b", "", "  }", "  \"\"\"", "   d");
        Check.pair(x, 0, "{}", 1, 1, 0, 0);
        Check.due("changesWith(4, 0)", x.changesWith(4, 0), 5);
        Check.due("changesWith(3, 2)", x.changesWith(3, 2), 0);
        Check.due("changesWith(2, 2)", x.changesWith(2, 2), 2);
        Check.due("changesWith(8, 20)", x.changesWith(8, 20), 5);
        Check.due("changesWith(5, 0)", x.changesWith(5, 0), 3);
        Check.due("changesWith(0, 0)", x.changesWith(0, 0), AutoIndenter.BAD);
        Check.due("changesWith(9, 0)", x.changesWith(9, 0), AutoIndenter.BAD);
        Check.due("changesWith(1, -1)", x.changesWith(1, -1), AutoIndenter.BAD);
        Check.due("changesWith(1, 21)", x.changesWith(1, 21), AutoIndenter.BAD);
        Check.due("the step is as before", x.setStep(3), 4);
        Check.due("the base is as before", x.setBase(2), 0);
        Check.due("wouldChange()", x.wouldChange(), 0);
    }

    private static void promise30To32Best() {
        AutoIndenter x = Check.withLines("  {", "     a", "     b", "  }", "       c");
        Check.pair(x, 0, "{}", 1, 1, 0, 0);
        Check.due("fewestChanges()", x.fewestChanges(), 1);
        Check.due("bestStep()", x.bestStep(), 3);
        Check.due("bestBase()", x.bestBase(), 2);
        Check.due("nothing is changed", x.undo(), 5);
        Check.due("fewestChanges() without rules", x.fewestChanges(), 3);
        Check.due("bestStep() without rules", x.bestStep(), 1);
        Check.due("bestBase() without rules", x.bestBase(), 2);
    }

    private static void promise30To32Edges() {
        AutoIndenter x = new AutoIndenter();
        Check.due("fewestChanges() of none", x.fewestChanges(), 0);
        Check.due("bestStep() of none", x.bestStep(), 1);
        Check.due("bestBase() of none", x.bestBase(), 0);
        x = Check.withLines(" ".repeat(20) + "{", " ".repeat(28) + "a", " ".repeat(28) + "b");
        Check.pair(x, 0, "{}", 1, 1, 0, 0);
        Check.due("fewestChanges()", x.fewestChanges(), 0);
        Check.due("the greatest step", x.bestStep(), 8);
        Check.due("the greatest base", x.bestBase(), 20);
        x = Check.withLines(" ".repeat(40) + "a", " ".repeat(39) + "b");
        Check.due("fewestChanges(), all lines", x.fewestChanges(), 2);
        Check.due("the smallest step", x.bestStep(), 1);
        Check.due("the smallest base", x.bestBase(), 0);
        x = new AutoIndenter();
        Check.put(x, " ".repeat(25) + "a");
        while (x.lines() < 20) {
            x.insertLine(0);
        }
        Check.due("bestBase(), asked first", x.bestBase(), 0);
        Check.due("fewestChanges(), all of 20 lines", x.fewestChanges(), 20);
        Check.due("bestStep(), all of 20 lines", x.bestStep(), 1);
        x.shift(0, 20, -8);
        Check.due("bestBase(), asked first behind a change", x.bestBase(), 17);
        Check.starter(x, 0, "a", 1, -2);
        Check.due("bestStep(), asked first behind a change", x.bestStep(), 1);
        x.setBase(1);
        x.shift(0, 20, -13);
        x.shift(0, 10, 36);
        Check.due("bestBase(), asked first behind a change", x.bestBase(), 6);
        x = Check.withLines("{", "   }", "     a", "     b");
        Check.pair(x, 0, "{}", 1, 1, 0, 1);
        Check.due("fewestChanges()", x.fewestChanges(), 2);
        Check.due("the smallest step for some base", x.bestStep(), 1);
        Check.due("the smallest base for this step", x.bestBase(), 5);
    }
}
