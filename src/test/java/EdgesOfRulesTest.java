import java.util.function.Supplier;

/** Promises 18 to 24, each sentence at its edges. */
public final class EdgesOfRulesTest {
    private static final int BAD = AutoIndenter.BAD;

    /** One way to make a rule of the text buffer. */
    private interface Maker {
        int make(AutoIndenter x, int r, int precedence, int steps);
    }

    public static void main(String[] args) {
        setStep();
        setBase();
        setComment();
        pair();
        pairTexts();
        pairRefusals();
        pairArguments();
        single(22, "starter", AutoIndenter::starter);
        single(23, "joiner", AutoIndenter::joiner);
        starterAndJoiner();
        inPlaceOfOthers();
        besideAPair();
        dropRule();
        Check.finish();
    }

    private static void setStep() {
        Check.says(18, "Sets the step.", "Returns the step before");
        AutoIndenter x = Check.withLines("(", "a");
        Check.pair(x, 0, "()", 0, 1, 0, 0);
        int before = 4;
        for (int v : new int[] {1, 8, 8, 1, 2, 7}) {
            Check.due("setStep(" + v + ")", x.setStep(v), before);
            Check.due("wanted(1)", x.wanted(1), v);
            before = v;
        }
        Check.says(18, "BAD if v is out of range.");
        for (int v : new int[] {-1, 0, 9, 10}) {
            Check.refused("setStep(" + v + ")", Check::some, y -> y.setStep(v), BAD);
        }
    }

    private static void setBase() {
        Check.says(19, "Sets the base.", "Returns the base before");
        AutoIndenter x = Check.withLines("a");
        int before = 0;
        for (int v : new int[] {20, 20, 0, 1, 19}) {
            Check.due("setBase(" + v + ")", x.setBase(v), before);
            Check.due("wanted(0)", x.wanted(0), v);
            before = v;
        }
        Check.says(19, "BAD if v is out of range.");
        for (int v : new int[] {-2, -1, 21, 22}) {
            Check.refused("setBase(" + v + ")", Check::some, y -> y.setBase(v), BAD);
        }
    }

    private static void setComment() {
        Check.says(20, "Sets the comment byte.", "Returns the comment byte before");
        AutoIndenter x = Check.withLines("a ! / : @ [ ^ ` { ~ b");
        int[] bytes = {'!', '/', ':', '@', '[', '^', '`', '{', '~', 0, 0};
        int before = 35;
        for (int n = 0; n < bytes.length; n++) {
            Check.due("setComment(" + bytes[n] + ")", x.setComment(bytes[n]), before);
            Check.due("tokens(0)", x.tokens(0), Math.min(11, bytes[n] == 0 ? 11 : n + 1));
            before = bytes[n];
        }
        Check.says(20, "BAD if c is out of range.");
        for (int c : new int[] {-1, 1, 31, 32, 34, 48, 57, 65, 90, 95, 97, 122, 127, 35 + 256}) {
            Check.refused("setComment(" + c + ")", Check::some, y -> y.setComment(c), BAD);
        }
    }

    private static void pair() {
        Check.says(21, "Makes a rule a pair, in place of the rule that it was.",
                "Returns 1 if the rule was there before, otherwise 0");
        for (int r : new int[] {0, 11}) {
            AutoIndenter x = Check.withLines("( a", "b", ")");
            Check.due("pair", Check.pair(x, r, "()", 0, 0, 0, 0), 0);
            Check.due("blockRule(1, 0)", x.blockRule(1, 0), r);
            Check.due("pair again", Check.pair(x, r, "a b", 9, 4, 1, 2), 1);
            Check.due("blockOpening(1, 0)", x.blockOpening(1, 0), 2);
            Check.due("depth(2)", x.depth(2), 0);
            Check.due("dropRule", x.dropRule(r), 0);
            Check.due("pair behind dropRule", Check.pair(x, r, "()", 0, 0, 0, 0), 0);
            Check.due("undo()", x.undo(), 6);
            Check.due("pair behind undo()", Check.pair(x, r, "()", 0, 0, 0, 0), 0);
        }
    }

    private static void good(String text, String opening, String closing) {
        AutoIndenter x = Check.withLines(opening, closing);
        Check.due("pair of '" + text + "'", Check.pair(x, 0, text, 0, 1, 0, 0), 0);
        Check.due("'" + opening + "' of '" + text + "' opens, and '" + closing + "' closes", x.closedBy(0, 0), 100);
        Check.due("the text buffer stays", x.clear(), text.length());
    }

    private static void pairTexts() {
        Check.says(21, "Its texts are in the text buffer, which stays: the opening text and the closing text, with one or"
                + " more spaces between them (any number of spaces, also none, if one of them is of kind 1), and any number"
                + " of spaces before and behind.");
        good("a b", "a", "b");
        good("a" + " ".repeat(70) + "b", "a", "b");
        good("abcdefgh" + " ".repeat(56) + "ijklmnop", "abcdefgh", "ijklmnop");
        good("   a b", "a", "b");
        good("a b   ", "a", "b");
        good(" ".repeat(69) + "a b", "a", "b");
        good("a b" + " ".repeat(69), "a", "b");
        good("()", "(", ")");
        good("(  )", "(", ")");
        good("(b", "(", "b");
        good("( b", "(", "b");
        good("a)", "a", ")");
        good("a )", "a", ")");
        good("abcdefgh)", "abcdefgh", ")");
        good("(abcdefgh", "(", "abcdefgh");
        good("!~", "!", "~");
        good("_ 9", "_", "9");
        good("a a", "a", "a");
        good("++", "+", "+");
    }

    private static void wrong(String text, int due) {
        Check.refused("pair of '" + text + "'", () -> Check.buffered(Check.some(), text), x -> x.pair(0, 1, 1, 1, 1), due);
        Check.refused("pair of '" + text + "'", () -> Check.buffered(Check.full(), text), x -> x.pair(1, 1, 1, 1, 1), due);
    }

    private static void pairRefusals() {
        Check.says(21, "-10 minus the index of the first byte of the text buffer that cannot stand there (a quotation mark");
        wrong("\"", -10);
        wrong("\"\"", -10);
        wrong("  \"", -12);
        wrong("a\"", -11);
        wrong("a \" b", -12);
        wrong("a b\"", -13);
        wrong("a b \"", -14);
        wrong("()\"", -12);
        wrong(" ".repeat(71) + "\"", -81);
        wrong("a b" + " ".repeat(68) + "\"", -81);
        Check.says(21, "the ninth byte of a word");
        wrong("abcdefghi", -18);
        wrong("abcdefghi b", -18);
        wrong("abcdefghijklmnop b", -18);
        wrong(" abcdefghi", -19);
        wrong("a abcdefghi", -20);
        wrong("(abcdefghi", -19);
        wrong("abcdefghi\"", -18);
        wrong("abcdefgh\"", -18);
        wrong("a".repeat(72), -18);
        wrong(" ".repeat(63) + "abcdefghi", -81);
        wrong("a" + " ".repeat(62) + "abcdefghi", -81);
        Check.says(21, "the first byte of a third text");
        wrong("a b c", -14);
        wrong("()x", -12);
        wrong("a(b", -12);
        wrong("( ) abcdefghi", -14);
        wrong("a b" + " ".repeat(68) + "c", -81);
        wrong("()\"x", -12);
        wrong("+++", -12);
        Check.says(21, "or minus its length if it ends too early");
        wrong("", -10);
        wrong(" ", -11);
        wrong("a", -11);
        wrong("(", -11);
        wrong("(  ", -13);
        wrong("abcdefgh", -18);
        wrong(" ".repeat(72), -82);
        wrong(" ".repeat(71) + "a", -82);
        wrong("a" + " ".repeat(71), -82);
    }

    private static void pairArguments() {
        Check.says(21, "BAD if an argument is out of range");
        AutoIndenter x = Check.buffered(new AutoIndenter(), "()");
        Check.due("the least arguments", x.pair(0, 0, 0, 0, 0), 0);
        Check.due("the greatest arguments", x.pair(11, 9, 4, 1, 2), 0);
        int[][] wrong = {{-1, 0, 0, 0, 0}, {12, 0, 0, 0, 0}, {0, -1, 0, 0, 0}, {0, 10, 0, 0, 0}, {0, 0, -1, 0, 0},
            {0, 0, 5, 0, 0}, {0, 0, 0, -1, 0}, {0, 0, 0, 2, 0}, {0, 0, 0, 0, -1}, {0, 0, 0, 0, 3}};
        for (int[] w : wrong) {
            for (String text : new String[] {"()", "\"", ""}) {
                Check.refused("pair" + java.util.Arrays.toString(w), () -> Check.buffered(Check.some(), text),
                        y -> y.pair(w[0], w[1], w[2], w[3], w[4]), BAD);
            }
        }
    }

    /** Starters and joiners are made in the same way. */
    private static void single(int promise, String name, Maker maker) {
        String sort = "Makes a rule a " + name + ", in place of the rule that it was.";
        Check.says(promise, sort, "Returns 1 if the rule was there before, otherwise 0");
        for (int r : new int[] {0, 11}) {
            AutoIndenter x = Check.buffered(new AutoIndenter(), "a");
            Check.due(name, maker.make(x, r, 0, -4), 0);
            Check.due(name + " again", maker.make(x, r, 9, 4), 1);
            Check.due("dropRule", x.dropRule(r), 0);
            Check.due(name + " behind dropRule", maker.make(x, r, 0, 0), 0);
        }
        if (promise == 22) {
            Check.says(22, "Its text is in the text buffer, which stays, with any number of spaces before and behind.");
        } else {
            Check.says(23, "Its text is in the text buffer, as for starter().");
        }
        String[] good = {"a", "(", "!", "~", "_", "0", "abcdefgh", " a", "a ", " ".repeat(71) + "a", "a" + " ".repeat(71),
            " ".repeat(64) + "abcdefgh", "  #  "};
        for (String text : good) {
            AutoIndenter x = Check.buffered(new AutoIndenter(), text);
            Check.due(name + " of '" + text + "'", maker.make(x, 0, 0, 0), 0);
            Check.due("the text buffer stays", x.clear(), text.length());
        }
        singleRefusals(promise, name, maker);
        Check.says(promise, "BAD if an argument is out of range");
        int[][] wrong = {{-1, 0, 0}, {12, 0, 0}, {0, -1, 0}, {0, 10, 0}, {0, 0, -5}, {0, 0, 5}};
        for (int[] w : wrong) {
            for (String text : new String[] {"a", "\"", ""}) {
                Check.refused(name + java.util.Arrays.toString(w), () -> Check.buffered(Check.some(), text),
                        x -> maker.make(x, w[0], w[1], w[2]), BAD);
            }
        }
    }

    private static void singleRefusals(int promise, String name, Maker maker) {
        if (promise == 22) {
            Check.says(22, "-10 minus a position as for pair(), where only one text is allowed.");
        } else {
            Check.says(23, "-10 minus a position as for starter().");
        }
        String[] texts = {"", " ", " ".repeat(72), "\"", "  \"", "a\"", "a \"", "abcdefgh\"", "abcdefghi", " abcdefghi",
            "a".repeat(72), " ".repeat(63) + "abcdefghi", "a b", "()", "a(", "(a", "( (", "a" + " ".repeat(70) + "b",
            "+ abcdefghi", "++", " ".repeat(71) + "\""};
        int[] due = {-10, -11, -82, -10, -12, -11, -12, -18, -18, -19, -18, -81, -12, -11, -11, -11, -12, -81, -12, -11,
            -81};
        for (int n = 0; n < texts.length; n++) {
            String text = texts[n];
            Supplier<AutoIndenter> some = () -> Check.buffered(Check.some(), text);
            Check.refused(name + " of '" + text + "'", some, x -> maker.make(x, 3, 1, 1), due[n]);
            Check.refused(name + " of '" + text + "', no rule before", some, x -> maker.make(x, 4, 1, 1), due[n]);
        }
    }

    private static void starterAndJoiner() {
        Check.says(22, "Makes a rule a starter, in place of the rule that it was.");
        AutoIndenter x = Check.withLines("abcdefgh", "abcdefgh");
        x.setBase(4);
        Check.starter(x, 11, " ".repeat(64) + "abcdefgh", 0, -1);
        Check.due("a starter", Check.wantedOfAll(x), "0 0");
        Check.says(23, "Makes a rule a joiner, in place of the rule that it was.");
        Check.joiner(x, 11, "abcdefgh" + " ".repeat(64), 0, 4);
        Check.due("a joiner", Check.wantedOfAll(x), "4 20");
    }

    /** Nothing of the rule before stays: neither its sort nor its texts nor its modes. */
    private static void inPlaceOfOthers() {
        Check.says(21, "in place of the rule that it was");
        for (int from = 0; from < 3; from++) {
            for (int to = 0; to < 3; to++) {
                AutoIndenter x = Check.withLines("a b", "c d");
                AutoIndenter twin = Check.withLines("a b", "c d");
                make(x, from, "a", "b");
                make(x, to, "c", "d");
                Check.put(twin, "x");
                twin.starter(0, 0, 0);
                twin.dropRule(0);
                twin.undo();
                twin.undo();
                make(twin, to, "c", "d");
                x.setStep(4);
                twin.setStep(4);
                twin.setStep(4);
                Check.due("digest(), from " + from + " to " + to, x.digest(), twin.digest());
                Check.due("strays()", x.strays(), twin.strays());
                Check.due("depth(2)", x.depth(2), twin.depth(2));
            }
        }
    }

    /** The places of the texts of a pair do not count when a rule with one text is made next. */
    private static void besideAPair() {
        Check.says(22, "in place of the rule that it was");
        AutoIndenter x = Check.withLines("b");
        Check.pair(x, 0, "( )", 0, 0, 0, 0);
        Check.starter(x, 1, "  b", 0, 0);
        Check.due("a starter has no closing text", x.strays(), 0);
        Check.pair(x, 0, "( )", 0, 0, 0, 0);
        Check.joiner(x, 1, "  b", 0, 0);
        Check.due("a joiner has no closing text", x.strays(), 0);
    }

    private static void make(AutoIndenter x, int sort, String first, String second) {
        switch (sort) {
            case 0: Check.pair(x, 0, first + " " + second, 1, 2, 1, 2); break;
            case 1: Check.starter(x, 0, first, 3, -4); break;
            default: Check.joiner(x, 0, first, 5, 3); break;
        }
    }

    private static void dropRule() {
        Check.says(24, "Removes a rule.", "Returns how many rules are left");
        AutoIndenter x = Check.full();
        Check.due("dropRule(0)", x.dropRule(0), 11);
        Check.due("dropRule(11)", x.dropRule(11), 10);
        for (int r = 1; r <= 10; r++) {
            Check.due("dropRule(" + r + ")", x.dropRule(r), 10 - r);
        }
        AutoIndenter closers = Check.withLines("( a )", ") +", "a");
        Check.pair(closers, 0, "()", 0, 1, 0, 0);
        Check.starter(closers, 1, "a", 0, 1);
        Check.joiner(closers, 2, "+", 1, 2);
        Check.due("the wanted indentations", Check.wantedOfAll(closers), "0 0 8");
        Check.due("strays()", closers.strays(), 1);
        closers.dropRule(2);
        Check.due("without the joiner", Check.wantedOfAll(closers), "0 0 4");
        closers.dropRule(1);
        Check.due("without the starter", Check.wantedOfAll(closers), "0 0 0");
        closers.dropRule(0);
        Check.due("nothing is stray without the pair", closers.strays(), 0);
        Check.due("nothing is opened without the pair", closers.closedBy(0, 0), AutoIndenter.NONE);
        Check.says(24, "BAD if r is out of range, or there is no such rule.");
        Check.refused("dropRule(-1)", Check::full, y -> y.dropRule(-1), BAD);
        Check.refused("dropRule(12)", Check::full, y -> y.dropRule(12), BAD);
        for (int r = 0; r < 12; r++) {
            int number = r;
            Check.refused("dropRule(" + r + ")", AutoIndenter::new, y -> y.dropRule(number), BAD);
            Check.due("dropRule(" + r + ") once more", x.dropRule(r), BAD);
        }
        Check.refused("dropRule(1), other rules", Check::some, y -> y.dropRule(1), BAD);
    }
}
