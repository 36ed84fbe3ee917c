/** The three examples of the document's section "Terms", call by call. */
public final class ExamplesTest {
    public static void main(String[] args) {
        block();
        alignedBlock();
        literal();
        Check.finish();
    }

    private static void block() {
        AutoIndenter x = new AutoIndenter();
        Check.due("type(40)", x.type(40), 1);
        Check.due("type(41)", x.type(41), 2);
        Check.due("pair(0, 5, 1, 0, 0)", x.pair(0, 5, 1, 0, 0), 0);
        Check.due("clear()", x.clear(), 2);
        Check.due("type(40)", x.type(40), 1);
        Check.due("insertLine(0)", x.insertLine(0), 1);
        Check.due("clear()", x.clear(), 1);
        Check.due("type(120)", x.type(120), 1);
        Check.due("insertLine(1)", x.insertLine(1), 2);
        Check.due("wanted(1)", x.wanted(1), 4);
        Check.due("reindent(0, 2)", x.reindent(0, 2), 1);
        Check.due("indentation(1)", x.indentation(1), 4);
        Check.due("wouldChange()", x.wouldChange(), 0);
    }

    private static void alignedBlock() {
        AutoIndenter x = new AutoIndenter();
        Check.due("type(40)", x.type(40), 1);
        Check.due("type(41)", x.type(41), 2);
        Check.due("pair(0, 5, 1, 1, 2)", x.pair(0, 5, 1, 1, 2), 0);
        Check.due("clear()", x.clear(), 2);
        Check.due("type(102)", x.type(102), 1);
        Check.due("type(40)", x.type(40), 2);
        Check.due("type(97)", x.type(97), 3);
        Check.due("insertLine(0)", x.insertLine(0), 1);
        Check.due("clear()", x.clear(), 3);
        Check.due("type(98)", x.type(98), 1);
        Check.due("insertLine(1)", x.insertLine(1), 2);
        Check.due("wanted(1)", x.wanted(1), 2);
        Check.due("reason(1)", x.reason(1), 2);
        Check.due("setStep(2)", x.setStep(2), 4);
        Check.due("wanted(1)", x.wanted(1), 2);
        Check.due("undo()", x.undo(), 3);
    }

    private static void literal() {
        AutoIndenter x = new AutoIndenter();
        Check.due("type(34)", x.type(34), 1);
        Check.due("type(34)", x.type(34), 2);
        Check.due("type(34)", x.type(34), 3);
        Check.due("insertLine(0)", x.insertLine(0), 1);
        Check.due("insertLine(1)", x.insertLine(1), 2);
        Check.due("isProtected(1)", x.isProtected(1), 1);
        Check.due("wanted(0)", x.wanted(0), 0);
        Check.due("wanted(1)", x.wanted(1), -9);
        Check.due("tokens(1)", x.tokens(1), 0);
        Check.due("insertLine(3)", x.insertLine(3), -1);
        Check.due("setComment(34)", x.setComment(34), -1);
        Check.due("undo()", x.undo(), 1);
        Check.due("undo()", x.undo(), 0);
        Check.due("undo()", x.undo(), -2);
    }
}
