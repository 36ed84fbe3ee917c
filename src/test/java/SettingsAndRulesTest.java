/** Promises 18 to 24: settings and rules. */
public final class SettingsAndRulesTest {
    public static void main(String[] args) {
        promise18SetStep();
        promise19SetBase();
        promise20SetComment();
        promise21Pair();
        promise21Texts();
        promise21WrongTexts();
        promise21WrongArguments();
        promise22Starter();
        promise23Joiner();
        promise24DropRule();
        rulesInPlaceOfRules();
        refusedCallsAreNoChanges();
        Check.finish();
    }

    private static void promise18SetStep() {
        AutoIndenter x = Check.withLines("(", "x");
        Check.pair(x, 0, "()", 0, 1, 0, 0);
        Check.due("setStep(0)", x.setStep(0), AutoIndenter.BAD);
        Check.due("setStep(9)", x.setStep(9), AutoIndenter.BAD);
        Check.due("setStep(-1)", x.setStep(-1), AutoIndenter.BAD);
        Check.due("setStep(1)", x.setStep(1), 4);
        Check.due("wanted(1)", x.wanted(1), 1);
        Check.due("setStep(8)", x.setStep(8), 1);
        Check.due("wanted(1)", x.wanted(1), 8);
        Check.due("setStep(8)", x.setStep(8), 8);
    }

    private static void promise19SetBase() {
        AutoIndenter x = Check.withLines("x");
        Check.due("setBase(-1)", x.setBase(-1), AutoIndenter.BAD);
        Check.due("setBase(21)", x.setBase(21), AutoIndenter.BAD);
        Check.due("setBase(20)", x.setBase(20), 0);
        Check.due("wanted(0)", x.wanted(0), 20);
        Check.due("setBase(0)", x.setBase(0), 20);
        Check.due("wanted(0)", x.wanted(0), 0);
    }

    private static void promise20SetComment() {
        AutoIndenter x = Check.withLines("a # b ; c ! ~");
        Check.due("tokens(0)", x.tokens(0), 1);
        int[] wrong = {-1, 1, 31, 32, 34, 48, 57, 65, 90, 95, 97, 122, 127, Integer.MIN_VALUE, Integer.MAX_VALUE};
        for (int c : wrong) {
            Check.due("setComment(" + c + ")", x.setComment(c), AutoIndenter.BAD);
        }
        Check.due("setComment(59)", x.setComment(59), 35);
        Check.due("tokens(0)", x.tokens(0), 3);
        Check.due("setComment(33)", x.setComment(33), 59);
        Check.due("tokens(0)", x.tokens(0), 5);
        Check.due("setComment(126)", x.setComment(126), 33);
        Check.due("tokens(0)", x.tokens(0), 6);
        Check.due("setComment(0)", x.setComment(0), 126);
        Check.due("tokens(0)", x.tokens(0), 7);
        int before = 0;
        for (int c : new int[] {47, 58, 64, 91, 92, 94, 96, 123}) {
            Check.due("setComment(" + c + ")", x.setComment(c), before);
            before = c;
        }
    }

    private static void promise21Pair() {
        AutoIndenter x = Check.withLines("ab [", "c", "] x");
        Check.due("pair of [ and ]", Check.pair(x, 11, "[]", 9, 4, 0, 2), 0);
        Check.due("the text buffer stays", x.clear(), 2);
        Check.due("the wanted indentations", Check.wantedOfAll(x), "0 16 3");
        Check.due("decidingRule(1)", x.decidingRule(1), 11);
        Check.due("pair in its place", Check.pair(x, 11, "ab c", 0, 0, 1, 1), 1);
        Check.due("the wanted indentations", Check.wantedOfAll(x), "0 3 0");
        Check.due("closedBy(0, 0)", x.closedBy(0, 0), 100);
    }

    private static void promise21Texts() {
        String[] good = {"()", "( )", "  (   )  ", "begin end", " begin   end ", "abcdefgh abcdefgh", "if;", ";if",
            "##", "_1 a_", "( (", "\\/", "+ +"};
        for (String text : good) {
            Check.due("pair of '" + text + "'", Check.pair(new AutoIndenter(), 0, text, 0, 0, 0, 0), 0);
        }
    }

    private static void promise21WrongTexts() {
        wrongPair("", -10);
        wrongPair("   ", -13);
        wrongPair("(", -11);
        wrongPair("( ", -12);
        wrongPair("beginend", -18);
        wrongPair("beginends", -18);
        wrongPair("  begin", -17);
        wrongPair("abcdefghi", -18);
        wrongPair("a abcdefghi", -20);
        wrongPair("(abcdefghi", -19);
        wrongPair("()x", -12);
        wrongPair("( ) )", -14);
        wrongPair("a b c", -14);
        wrongPair("a b \"", -14);
        wrongPair("a b abcdefghi", -14);
        wrongPair("\"", -10);
        wrongPair("a\"", -11);
        wrongPair("a \"b\"", -12);
        wrongPair(" ".repeat(72), -82);
    }

    private static void wrongPair(String text, int due) {
        AutoIndenter x = new AutoIndenter();
        Check.due("pair of '" + text + "'", Check.pair(x, 0, text, 0, 0, 0, 0), due);
        Check.due("undo() behind it", x.undo(), AutoIndenter.STATE);
        Check.due("dropRule(0) behind it", x.dropRule(0), AutoIndenter.BAD);
    }

    private static void promise21WrongArguments() {
        AutoIndenter x = new AutoIndenter();
        for (String text : new String[] {"()", "\""}) {
            Check.put(x, text);
            Check.due("pair(-1, ..)", x.pair(-1, 0, 0, 0, 0), AutoIndenter.BAD);
            Check.due("pair(12, ..)", x.pair(12, 0, 0, 0, 0), AutoIndenter.BAD);
            Check.due("precedence -1", x.pair(0, -1, 0, 0, 0), AutoIndenter.BAD);
            Check.due("precedence 10", x.pair(0, 10, 0, 0, 0), AutoIndenter.BAD);
            Check.due("steps -1", x.pair(0, 0, -1, 0, 0), AutoIndenter.BAD);
            Check.due("steps 5", x.pair(0, 0, 5, 0, 0), AutoIndenter.BAD);
            Check.due("aligned -1", x.pair(0, 0, 0, -1, 0), AutoIndenter.BAD);
            Check.due("aligned 2", x.pair(0, 0, 0, 2, 0), AutoIndenter.BAD);
            Check.due("closing -1", x.pair(0, 0, 0, 0, -1), AutoIndenter.BAD);
            Check.due("closing 3", x.pair(0, 0, 0, 0, 3), AutoIndenter.BAD);
        }
    }

    private static void promise22Starter() {
        AutoIndenter x = Check.withLines("case", "cases", "a case", "\"case\"");
        x.setBase(9);
        Check.due("starter", Check.starter(x, 3, "  case ", 0, -2), 0);
        Check.due("the text buffer stays", x.clear(), 7);
        Check.due("the wanted indentations", Check.wantedOfAll(x), "1 9 9 9");
        Check.due("starter in its place", Check.starter(x, 3, "a", 9, 4), 1);
        Check.due("the wanted indentations", Check.wantedOfAll(x), "9 9 25 9");
        oneText(true);
    }

    private static void promise23Joiner() {
        AutoIndenter x = Check.withLines("a +", "b +", "", "# c", "d");
        x.setBase(9);
        Check.due("joiner", Check.joiner(x, 3, " + ", 0, -2), 0);
        Check.due("the text buffer stays", x.clear(), 3);
        Check.due("the wanted indentations", Check.wantedOfAll(x), "9 1 -9 9 1");
        Check.due("joiner in its place", Check.joiner(x, 3, "a", 9, 4), 1);
        Check.due("the wanted indentations", Check.wantedOfAll(x), "9 9 -9 9 9");
        oneText(false);
    }

    private static void oneText(boolean isStarter) {
        AutoIndenter x = new AutoIndenter();
        String[] texts = {"", "  ", "\"", " \"x", "a b", "a\"", "()", "a(", "abcdefghi", " abcdefghi ", "abcdefgh\"",
            "abcdefgh"};
        int[] due = {-10, -12, -10, -11, -12, -11, -11, -11, -18, -19, -18, 0};
        for (int j = 0; j < texts.length; j++) {
            int got = isStarter ? Check.starter(x, 0, texts[j], 0, 0) : Check.joiner(x, 0, texts[j], 0, 0);
            Check.due((isStarter ? "starter of '" : "joiner of '") + texts[j] + "'", got, due[j]);
        }
        int[][] wrong = {{-1, 0, 0}, {12, 0, 0}, {0, -1, 0}, {0, 10, 0}, {0, 0, -5}, {0, 0, 5}};
        for (String text : new String[] {"a", "\""}) {
            Check.put(x, text);
            for (int[] w : wrong) {
                int got = isStarter ? x.starter(w[0], w[1], w[2]) : x.joiner(w[0], w[1], w[2]);
                Check.due("a rule with " + java.util.Arrays.toString(w), got, AutoIndenter.BAD);
            }
        }
        Check.put(x, "a");
        Check.due("the edges", isStarter ? x.starter(11, 9, 4) : x.joiner(11, 9, 4), 0);
        Check.due("the edges", isStarter ? x.starter(11, 0, -4) : x.joiner(11, 0, -4), 1);
    }

    private static void promise24DropRule() {
        AutoIndenter x = Check.withLines("(", "x");
        Check.pair(x, 0, "()", 0, 1, 0, 0);
        Check.starter(x, 5, "x", 0, 1);
        Check.joiner(x, 11, "x", 0, 1);
        Check.due("dropRule(-1)", x.dropRule(-1), AutoIndenter.BAD);
        Check.due("dropRule(12)", x.dropRule(12), AutoIndenter.BAD);
        Check.due("dropRule(1)", x.dropRule(1), AutoIndenter.BAD);
        Check.due("wanted(1)", x.wanted(1), 8);
        Check.due("dropRule(5)", x.dropRule(5), 2);
        Check.due("wanted(1)", x.wanted(1), 4);
        Check.due("dropRule(5) again", x.dropRule(5), AutoIndenter.BAD);
        Check.due("dropRule(0)", x.dropRule(0), 1);
        Check.due("wanted(1)", x.wanted(1), 0);
        Check.due("dropRule(11)", x.dropRule(11), 0);
        Check.due("a dropped rule was not there", Check.starter(x, 5, "x", 0, 1), 0);
    }

    /** The closing text of the pair that a rule was does not stay behind. */
    private static void rulesInPlaceOfRules() {
        AutoIndenter x = Check.withLines(") x");
        Check.pair(x, 0, "()", 0, 1, 1, 2);
        Check.due("strays() of the pair", x.strays(), 1);
        Check.due("a starter in its place", Check.starter(x, 0, "x", 0, 1), 1);
        Check.due("strays() of the starter", x.strays(), 0);
        Check.due("a joiner in its place", Check.joiner(x, 0, "x", 0, 1), 1);
        Check.due("a pair in its place", Check.pair(x, 0, "x )", 0, 1, 0, 0), 1);
        Check.due("dropRule(0)", x.dropRule(0), 0);
        Check.pair(x, 1, "( )", 0, 1, 0, 0);
        Check.starter(x, 0, "  x", 0, 1);
        Check.due("strays() of a starter where the closing text stood", x.strays(), 1);
    }

    private static void refusedCallsAreNoChanges() {
        AutoIndenter x = Check.withLines("a");
        long before = x.digest();
        x.setStep(0);
        x.setBase(21);
        x.setComment(34);
        x.pair(0, 0, 0, 0, 0);
        x.starter(0, 0, 9);
        x.joiner(12, 0, 0);
        x.dropRule(0);
        Check.due("digest() behind refused calls", x.digest(), before);
        Check.put(x, "\"");
        x.starter(0, 0, 0);
        x.joiner(0, 0, 0);
        Check.due("undo() behind them", x.undo(), 0);
    }
}
