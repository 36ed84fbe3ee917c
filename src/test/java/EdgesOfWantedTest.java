import java.util.function.Supplier;

/** Promises 25 to 32, each sentence at its edges. */
public final class EdgesOfWantedTest {
    private static final int BAD = AutoIndenter.BAD, NONE = AutoIndenter.NONE;
    private static final String Q3 = "\"\"\"";

    public static void main(String[] args) {
        wanted();
        reason();
        reasonAtTheEdges();
        decidingRule();
        wouldChange();
        changesWith();
        changesWithRefused();
        fewestChanges();
        bestStep();
        bestBase();
        Check.finish();
    }

    private static void noSuchLine(String call, java.util.function.IntFunction<Check.Call> run) {
        for (int count : new int[] {0, 1, 20}) {
            for (String text : new String[] {"a", ""}) {
                Supplier<AutoIndenter> maker = () -> Check.copies(count, text);
                for (int i : new int[] {-1, count, count + 1}) {
                    Check.refused(call + " of line " + i + " of " + count, maker, run.apply(i), BAD);
                }
            }
        }
        Check.refused(call + " behind a protected line", Check::some, run.apply(5), BAD);
    }

    private static void wanted() {
        Check.says(25, "Returns the wanted indentation of a line.", "Returns the wanted indentation");
        AutoIndenter x = Check.copies(20, "   a");
        Check.due("wanted(0)", x.wanted(0), 0);
        Check.due("wanted(19)", x.wanted(19), 0);
        x.setBase(20);
        Check.due("wanted(0), base 20", x.wanted(0), 20);
        Check.due("wanted(19), base 20", x.wanted(19), 20);
        Check.due("nothing is changed", x.indentation(19), 3);
        Check.says(25, "NONE if the line is blank or protected");
        x = Check.withLines("", Q3, "", "a", Q3, "", "b");
        Check.due("the wanted indentations", Check.wantedOfAll(x), "-9 0 -9 -9 -9 -9 0");
        x = Check.copies(20, "");
        Check.due("wanted(0), blank", x.wanted(0), NONE);
        Check.due("wanted(19), blank", x.wanted(19), NONE);
        Check.says(25, "BAD if there is no such line.");
        noSuchLine("wanted", i -> y -> y.wanted(i));
    }

    private static void reason() {
        Check.says(26, "Tells which candidate decides about the wanted indentation of a line.", "Returns 0 the base as the"
                + " ground, 1 the ground by the steps of a pair, 2 the ground as the column of a token (by a block that is"
                + " aligned), 3 the closed block, 4 a starter, 5 a joiner");
        AutoIndenter x = Check.withLines("a", "{", "b", "( c", "d +", "e", ") }", "s", "# f");
        Check.pair(x, 0, "{}", 0, 0, 0, 0);
        Check.pair(x, 1, "()", 0, 0, 1, 0);
        Check.starter(x, 2, "s", 0, 0);
        Check.joiner(x, 3, "+", 0, 0);
        int[] due = {0, 0, 1, 1, 2, 5, 3, 4, 0};
        for (int i = 0; i < due.length; i++) {
            Check.due("reason(" + i + ")", x.reason(i), due[i]);
        }
        Check.says(26, "NONE if the line is blank or protected");
        x = Check.withLines("", Q3, "", "a", Q3, "", "b");
        due = new int[] {NONE, 0, NONE, NONE, NONE, NONE, 0};
        for (int i = 0; i < due.length; i++) {
            Check.due("reason(" + i + ")", x.reason(i), due[i]);
        }
        Check.says(26, "BAD if there is no such line.");
        noSuchLine("reason", i -> y -> y.reason(i));
    }

    private static void reasonAtTheEdges() {
        Check.says(26, "1 the ground by the steps of a pair, 2 the ground as the column of a token (by a block that is"
                + " aligned)");
        AutoIndenter x = Check.withLines("(", "a");
        Check.pair(x, 0, "()", 0, 0, 1, 0);
        Check.due("an aligned pair without a next token", x.reason(1), 1);
        Check.put(x, "( # b");
        x.replaceLine(0);
        Check.due("an aligned pair with a comment", x.reason(1), 1);
        Check.put(x, "(b");
        x.replaceLine(0);
        Check.due("an aligned pair with a next token", x.reason(1), 2);
        Check.pair(x, 0, "()", 0, 0, 0, 0);
        Check.due("a pair that is not aligned", x.reason(1), 1);
        Check.put(x, ")");
        x.replaceLine(1);
        x.insertLine(2);
        Check.due("a leading closer", x.reason(1), 3);
        Check.due("a closer that closes nothing", x.reason(2), 0);
        x.removeLine(0);
        Check.due("a closer whose block is removed", x.reason(0), 0);
        Check.due("decidingRule(0)", x.decidingRule(0), NONE);
        x.undo();
        Check.due("a closer whose block is there again", x.reason(1), 3);
        x = Check.withLines("(b", ")");
        Check.pair(x, 0, "()", 0, 0, 1, 1);
        Check.due("the content column of a closed block", x.reason(1), 3);
    }

    private static void decidingRule() {
        Check.says(27, "Returns the rule that decides about the wanted indentation of a line: the pair of the block whose"
                + " content column is the ground (if reason() is 1 or 2), the pair of the closed block (3), the starter (4)"
                + " or the joiner (5).", "Returns the rule");
        for (int r : new int[] {0, 11}) {
            AutoIndenter x = Check.withLines("(", "a", ")");
            Check.pair(x, r, "()", 0, 0, 0, 0);
            Check.due("the block of the ground", x.decidingRule(1), r);
            Check.due("the closed block", x.decidingRule(2), r);
            Check.put(x, "(b");
            x.replaceLine(0);
            Check.pair(x, r, "()", 0, 0, 1, 0);
            Check.due("the aligned block of the ground", x.decidingRule(1), r);
            Check.starter(x, r, "a", 0, 0);
            Check.due("the starter", x.decidingRule(1), r);
            Check.joiner(x, r, "b", 0, 0);
            Check.due("the joiner", x.decidingRule(1), r);
        }
        AutoIndenter x = Check.withLines("{", "(", "a", ")", "b");
        Check.pair(x, 3, "{}", 0, 0, 0, 0);
        Check.pair(x, 4, "()", 0, 0, 0, 0);
        int[] due = {NONE, 3, 4, 4, 3};
        for (int i = 0; i < due.length; i++) {
            Check.due("decidingRule(" + i + "), blocks within blocks", x.decidingRule(i), due[i]);
        }
        Check.says(27, "NONE if reason() is 0 or NONE");
        x = Check.withLines("a", "", Q3, "b", "", Q3, "()", "c");
        Check.pair(x, 0, "()", 0, 0, 0, 0);
        for (int i = 0; i < 8; i++) {
            Check.due("decidingRule(" + i + ")", x.decidingRule(i), NONE);
        }
        Check.says(27, "BAD if there is no such line.");
        noSuchLine("decidingRule", i -> y -> y.decidingRule(i));
    }

    private static void wouldChange() {
        Check.says(28, "Finds the lines that would get another indentation if all lines were indented anew.",
                "Returns the set of these lines.");
        Check.due("no lines", new AutoIndenter().wouldChange(), 0);
        Check.due("blank lines", Check.copies(20, "").wouldChange(), 0);
        Check.due("20 lines, none of them", Check.copies(20, "a").wouldChange(), 0);
        Check.due("20 lines, all of them", Check.copies(20, " a").wouldChange(), 0xFFFFF);
        AutoIndenter x = Check.copies(20, " a");
        x.pin(0);
        x.pin(19);
        Check.due("20 lines, two of them pinned", x.wouldChange(), 0x7FFFE);
        x = Check.withLines(" {", "     a");
        Check.pair(x, 0, "{}", 0, 1, 0, 0);
        Check.due("a line that is right before those before it are", x.wouldChange(), 3);
        x = Check.withLines(" {", "    a");
        Check.pair(x, 0, "{}", 0, 1, 0, 0);
        Check.due("a line that is right when those before it are", x.wouldChange(), 1);
        x = Check.withLines(" " + Q3, " a", " " + Q3);
        Check.due("protected lines", x.wouldChange(), 1);
        Check.says(28, "Nothing is changed.");
        Check.silent("wouldChange()", Check::some, y -> y.wouldChange());
        Check.silent("wouldChange()", Check::full, y -> y.wouldChange());
        Check.silent("wouldChange()", AutoIndenter::new, y -> y.wouldChange());
    }

    private static AutoIndenter block(int base, int step) {
        AutoIndenter x = Check.withLines(" ".repeat(base) + "{", " ".repeat(base + step) + "a", "", " ".repeat(base) + "}");
        Check.pair(x, 0, "{}", 0, 1, 0, 0);
        return x;
    }

    private static void changesWith() {
        Check.says(29, "Counts the lines that would get another indentation if all lines were indented anew with another"
                + " step and base.", "Returns how many lines");
        for (int base : new int[] {0, 1, 20}) {
            for (int step : new int[] {1, 8}) {
                AutoIndenter x = block(base, step);
                Check.due("the right ones", x.changesWith(step, base), 0);
                Check.due("another step", x.changesWith(9 - step, base), 1);
                Check.due("another base", x.changesWith(step, 20 - base), base == 20 - base ? 0 : 3);
            }
        }
        Check.due("no lines", new AutoIndenter().changesWith(1, 0), 0);
        Check.due("20 lines, all of them", Check.copies(20, " a").changesWith(8, 20), 20);
        Check.due("20 lines, none of them", Check.copies(20, " a").changesWith(8, 1), 0);
        AutoIndenter x = Check.copies(20, " a");
        x.pin(7);
        Check.due("20 lines, one pinned", x.changesWith(1, 0), 19);
        Check.due("the present step and base", Check.some().changesWith(4, 2), Integer.bitCount(Check.some().wouldChange()));
        Check.says(29, "Nothing is changed.");
        Check.silent("changesWith(8, 20)", Check::some, y -> y.changesWith(8, 20));
        Check.silent("changesWith(1, 0)", Check::full, y -> y.changesWith(1, 0));
    }

    private static void changesWithRefused() {
        Check.says(29, "BAD if step or base is out of range.");
        int[][] wrong = {{0, 0}, {9, 0}, {-1, 0}, {1, -1}, {1, 21}, {8, 21}, {0, 21}, {9, -1}};
        for (int[] w : wrong) {
            String call = "changesWith" + java.util.Arrays.toString(w);
            Check.refused(call, Check::some, x -> x.changesWith(w[0], w[1]), BAD);
            Check.refused(call, AutoIndenter::new, x -> x.changesWith(w[0], w[1]), BAD);
        }
    }

    private static void fewestChanges() {
        Check.says(30, "Finds the smallest value of changesWith() for all steps and bases.", "Returns this number.");
        Check.due("no lines", new AutoIndenter().fewestChanges(), 0);
        Check.due("blank lines", Check.copies(20, "").fewestChanges(), 0);
        Check.due("the least step and base", block(0, 1).fewestChanges(), 0);
        Check.due("the greatest step and base", block(20, 8).fewestChanges(), 0);
        Check.due("a base beyond the greatest one", block(21, 8).fewestChanges(), 3);
        Check.due("a base beyond it, and one line that fits", block(21, 7).fewestChanges(), 2);
        Check.due("a step beyond the greatest one", block(20, 9).fewestChanges(), 1);
        Check.due("20 lines that fit", Check.copies(20, " ".repeat(20) + "a").fewestChanges(), 0);
        Check.due("20 lines that never fit", Check.copies(20, " ".repeat(21) + "a").fewestChanges(), 20);
        for (int n = 0; n < 40; n++) {
            AutoIndenter x = drawn(n);
            int fewest = 20;
            for (int step = 1; step <= 8; step++) {
                for (int base = 0; base <= 20; base++) {
                    fewest = Math.min(fewest, x.changesWith(step, base));
                }
            }
            Check.due("fewestChanges() of " + n, x.fewestChanges(), fewest);
        }
        Check.silent("fewestChanges()", Check::some, x -> x.fewestChanges());
    }

    private static AutoIndenter drawn(int n) {
        AutoIndenter x = new AutoIndenter();
        Check.pair(x, 0, "()", 3, 1, 1, 1);
        Check.pair(x, 1, "{}", 2, 2, 0, 0);
        Check.pair(x, 2, "begin end", 4, 1, 0, 2);
        Check.starter(x, 3, "case", 5, -1);
        Check.joiner(x, 4, "+", 1, 2);
        x.draw(n, 12);
        if (n % 2 == 0) {
            x.draw(1000 + n, 8);
        }
        return x;
    }

    private static void bestStep() {
        Check.says(31, "Finds the step with which the fewest lines would change: the smallest step for which changesWith()"
                + " with some base is fewestChanges().", "Returns the step.");
        Check.due("no lines", new AutoIndenter().bestStep(), 1);
        Check.due("all steps are equal", Check.copies(20, " ".repeat(5) + "a").bestStep(), 1);
        Check.due("nothing fits", Check.copies(20, " ".repeat(21) + "a").bestStep(), 1);
        for (int step = 1; step <= 8; step++) {
            Check.due("the step " + step, block(20, step).bestStep(), step);
            Check.due("the step " + step, block(0, step).bestStep(), step);
        }
        Check.due("beyond the greatest one", block(20, 9).bestStep(), 1);
        for (int n = 0; n < 40; n++) {
            AutoIndenter x = drawn(n);
            int best = 0;
            for (int step = 8; step >= 1; step--) {
                for (int base = 0; base <= 20; base++) {
                    best = x.changesWith(step, base) == x.fewestChanges() ? step : best;
                }
            }
            Check.due("bestStep() of " + n, x.bestStep(), best);
        }
        Check.silent("bestStep()", Check::some, x -> x.bestStep());
    }

    private static void bestBase() {
        Check.says(32, "Finds the base with which the fewest lines would change: the smallest base for which changesWith(),"
                + " with bestStep(), is fewestChanges().", "Returns the base.");
        Check.due("no lines", new AutoIndenter().bestBase(), 0);
        Check.due("nothing fits", Check.copies(20, " ".repeat(21) + "a").bestBase(), 0);
        for (int base = 0; base <= 20; base++) {
            Check.due("the base " + base, block(base, 3).bestBase(), base);
        }
        Check.due("two bases are equal", Check.withLines(" ".repeat(20) + "a", "  b").bestBase(), 2);
        for (int n = 0; n < 40; n++) {
            AutoIndenter x = drawn(n);
            int best = -1;
            for (int base = 20; base >= 0; base--) {
                best = x.changesWith(x.bestStep(), base) == x.fewestChanges() ? base : best;
            }
            Check.due("bestBase() of " + n, x.bestBase(), best);
        }
        AutoIndenter x = Check.withLines("{", "   }", "     a", "     b");
        Check.pair(x, 0, "{}", 0, 1, 0, 1);
        Check.due("only bases with the smallest step count", x.bestBase(), 5);
        Check.silent("bestBase()", Check::some, y -> y.bestBase());
    }
}
