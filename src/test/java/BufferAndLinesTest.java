/** Promises 1 to 17: a new object, the text buffer, and lines. */
public final class BufferAndLinesTest {
    private static final String SIXTEEN = "abcdefghijklmnop";
    private static final String THIRTY_TWO = SIXTEEN + SIXTEEN;

    public static void main(String[] args) {
        promise01NewObject();
        promise02Type();
        promise03Clear();
        promise04InsertLine();
        promise04BufferAsLine();
        promise05ReplaceLine();
        promise06RemoveLine();
        promise07SplitLine();
        promise07WantedOfNewLine();
        promise07WrongArguments();
        promise08JoinLines();
        promise08FullAndBad();
        promise09Shift();
        promise10Pin();
        promise11Reindent();
        promise11LeavesSomeLines();
        promise12To15Lines();
        promise16IsProtected();
        promise17IsPinned();
        refusedCallsAreNoChanges();
        Check.finish();
    }

    private static void promise01NewObject() {
        AutoIndenter x = new AutoIndenter();
        Check.due("lines() of a new object", x.lines(), 0);
        Check.due("clear() of a new object", x.clear(), 0);
        Check.due("undo() of a new object", x.undo(), AutoIndenter.STATE);
        Check.due("back(0) of a new object", x.back(0), AutoIndenter.BAD);
        Check.due("back(1) of a new object", x.back(1), AutoIndenter.BAD);
        for (int r = 0; r < 12; r++) {
            Check.due("dropRule of a new object", x.dropRule(r), AutoIndenter.BAD);
        }
        Check.due("setStep(8) on a new object", x.setStep(8), 4);
        Check.due("setBase(20) on a new object", x.setBase(20), 0);
        Check.due("setComment(0) on a new object", x.setComment(0), 35);
    }

    private static void promise02Type() {
        AutoIndenter x = new AutoIndenter();
        Check.due("type(31)", x.type(31), AutoIndenter.BAD);
        Check.due("type(127)", x.type(127), AutoIndenter.BAD);
        Check.due("type(-1)", x.type(-1), AutoIndenter.BAD);
        Check.due("type(MIN)", x.type(Integer.MIN_VALUE), AutoIndenter.BAD);
        Check.due("type(MAX)", x.type(Integer.MAX_VALUE), AutoIndenter.BAD);
        Check.due("type(32)", x.type(32), 1);
        Check.due("type(126)", x.type(126), 2);
        for (int n = 3; n <= 72; n++) {
            Check.due("type(97)", x.type(97), n);
        }
        Check.due("the 73rd byte", x.type(97), AutoIndenter.FULL);
        Check.due("a wrong 73rd byte", x.type(31), AutoIndenter.BAD);
        Check.due("clear() behind 72 bytes", x.clear(), 72);
    }

    private static void promise03Clear() {
        AutoIndenter x = new AutoIndenter();
        x.type(97);
        x.type(32);
        Check.due("clear()", x.clear(), 2);
        Check.due("clear() again", x.clear(), 0);
        Check.due("type(98)", x.type(98), 1);
        Check.due("insertLine(0)", x.insertLine(0), 1);
        Check.due("the line", Check.line(x, 0), "b");
    }

    private static void promise04InsertLine() {
        AutoIndenter x = new AutoIndenter();
        Check.put(x, "b");
        Check.due("insertLine(1)", x.insertLine(1), AutoIndenter.BAD);
        Check.due("insertLine(-1)", x.insertLine(-1), AutoIndenter.BAD);
        Check.due("insertLine(0)", x.insertLine(0), 1);
        Check.due("pin(0)", x.pin(0), 1);
        Check.put(x, "  a");
        Check.due("insertLine(0)", x.insertLine(0), 2);
        Check.put(x, " d  e ");
        Check.due("insertLine(2)", x.insertLine(2), 3);
        Check.due("insertLine(1)", x.insertLine(1), 4);
        Check.due("the lines", Check.allLines(x), "  a| d  e|*b| d  e|");
        Check.due("the text buffer stays", x.clear(), 6);
        for (int n = 5; n <= 20; n++) {
            Check.due("insertLine", x.insertLine(2), n);
        }
        Check.due("the 21st line", x.insertLine(20), AutoIndenter.FULL);
        Check.due("a wrong 21st line", x.insertLine(21), AutoIndenter.BAD);
        Check.due("the last line", Check.line(x, 19), " d  e");
        Check.due("the line before", Check.line(x, 18), "*b");
    }

    private static void promise04BufferAsLine() {
        AutoIndenter x = new AutoIndenter();
        Check.put(x, " ".repeat(72));
        Check.due("72 spaces are a line", x.insertLine(0), 1);
        Check.due("its indentation", x.indentation(0), 0);
        Check.put(x, " ".repeat(40) + THIRTY_TWO);
        Check.due("the largest line", x.insertLine(1), 2);
        Check.due("it", Check.line(x, 1), " ".repeat(40) + THIRTY_TWO);
        Check.put(x, " ".repeat(41) + "a");
        Check.due("indentation 41", x.insertLine(2), AutoIndenter.FULL);
        Check.put(x, THIRTY_TWO + "a");
        Check.due("33 bytes", x.insertLine(2), AutoIndenter.FULL);
        Check.due("33 bytes at a wrong place", x.insertLine(3), AutoIndenter.BAD);
        Check.put(x, THIRTY_TWO + "      ");
        Check.due("spaces at the end do not count", x.insertLine(2), 3);
        Check.due("length", x.length(2), 32);
    }

    private static void promise05ReplaceLine() {
        AutoIndenter x = Check.withLines("  a", "   b");
        x.pin(1);
        Check.put(x, "    ccc ");
        Check.due("replaceLine(2)", x.replaceLine(2), AutoIndenter.BAD);
        Check.due("replaceLine(-1)", x.replaceLine(-1), AutoIndenter.BAD);
        Check.due("replaceLine(0)", x.replaceLine(0), 2);
        Check.due("replaceLine(1)", x.replaceLine(1), 3);
        Check.due("a pinned line stays pinned", Check.allLines(x), "    ccc|*    ccc|");
        Check.due("the text buffer stays", x.clear(), 8);
        Check.due("replaceLine(0) by nothing", x.replaceLine(0), 4);
        Check.due("the lines", Check.allLines(x), "|*    ccc|");
        Check.put(x, THIRTY_TWO + "a");
        Check.due("33 bytes", x.replaceLine(0), AutoIndenter.FULL);
        Check.due("33 bytes in no line", x.replaceLine(2), AutoIndenter.BAD);
        Check.due("the lines are as before", Check.allLines(x), "|*    ccc|");
    }

    private static void promise06RemoveLine() {
        AutoIndenter x = Check.withLines("a", "  bb", "c");
        x.pin(2);
        Check.due("removeLine(3)", x.removeLine(3), AutoIndenter.BAD);
        Check.due("removeLine(-1)", x.removeLine(-1), AutoIndenter.BAD);
        Check.due("removeLine(0)", x.removeLine(0), 2);
        Check.due("the lines", Check.allLines(x), "  bb|*c|");
        Check.due("removeLine(1)", x.removeLine(1), 1);
        Check.due("removeLine(0)", x.removeLine(0), 0);
        Check.due("removeLine(0) of none", x.removeLine(0), AutoIndenter.BAD);
    }

    private static void promise07SplitLine() {
        AutoIndenter x = Check.withLines("  ab   cd", "x");
        x.pin(0);
        Check.due("splitLine(0, 3)", x.splitLine(0, 3), 0);
        Check.due("the lines", Check.allLines(x), "*  ab|cd|x|");
        Check.due("splitLine(1, 1)", x.splitLine(1, 1), 0);
        Check.due("the lines", Check.allLines(x), "*  ab|c|d|x|");
        AutoIndenter y = Check.withLines("ab   cd");
        Check.due("splitLine(0, 2), at the first space", y.splitLine(0, 2), 0);
        Check.due("the lines", Check.allLines(y), "ab|cd|");
        y = Check.withLines("ab   cd");
        Check.due("splitLine(0, 5), behind the spaces", y.splitLine(0, 5), 0);
        Check.due("the lines", Check.allLines(y), "ab|cd|");
    }

    private static void promise07WantedOfNewLine() {
        AutoIndenter x = Check.withLines(" f ( a, b )");
        Check.pair(x, 0, "()", 5, 2, 0, 0);
        Check.due("splitLine behind the opening token", x.splitLine(0, 3), 9);
        Check.due("splitLine before the closing token", x.splitLine(1, 5), 1);
        Check.due("the lines", Check.allLines(x), " f (|         a, b| )|");
        x = Check.withLines("\"\"\" a b");
        x.setBase(7);
        Check.due("a protected new line gets 0", x.splitLine(0, 4), 0);
        Check.due("isProtected(1)", x.isProtected(1), 1);
        x = Check.withLines("\"\"\"");
        x.setBase(7);
        Check.due("a literal that is split up is none", x.splitLine(0, 1), 7);
        Check.due("the lines", Check.allLines(x), "\"|       \"\"|");
    }

    private static void promise07WrongArguments() {
        AutoIndenter x = Check.withLines("abc", "");
        Check.due("splitLine(0, 0)", x.splitLine(0, 0), AutoIndenter.BAD);
        Check.due("splitLine(0, -1)", x.splitLine(0, -1), AutoIndenter.BAD);
        Check.due("splitLine(0, 3)", x.splitLine(0, 3), AutoIndenter.BAD);
        Check.due("splitLine(1, 1)", x.splitLine(1, 1), AutoIndenter.BAD);
        Check.due("splitLine(2, 1)", x.splitLine(2, 1), AutoIndenter.BAD);
        Check.due("splitLine(-1, 1)", x.splitLine(-1, 1), AutoIndenter.BAD);
        Check.due("splitLine(0, MAX)", x.splitLine(0, Integer.MAX_VALUE), AutoIndenter.BAD);
        while (x.lines() < 20) {
            x.insertLine(2);
        }
        Check.due("splitLine(0, 1) of 20 lines", x.splitLine(0, 1), AutoIndenter.FULL);
        Check.due("splitLine(0, 0) of 20 lines", x.splitLine(0, 0), AutoIndenter.BAD);
    }

    private static void promise08JoinLines() {
        AutoIndenter x = Check.withLines("  ab", "    cd", "", "   e", "", "", "f");
        x.pin(1);
        Check.due("joinLines(0), both with content", x.joinLines(0), 5);
        Check.due("the lines", Check.allLines(x), "  ab cd||   e|||f|");
        Check.due("joinLines(1), the first one blank", x.joinLines(1), 1);
        Check.due("the lines", Check.allLines(x), "  ab cd|   e|||f|");
        Check.due("joinLines(1), the second one blank", x.joinLines(1), 1);
        Check.due("the lines", Check.allLines(x), "  ab cd|   e||f|");
        x.pin(2);
        Check.due("joinLines(2), the first one blank and pinned", x.joinLines(2), 1);
        Check.due("the lines", Check.allLines(x), "  ab cd|   e|*f|");
        x = Check.withLines("", "");
        x.pin(0);
        Check.due("joinLines(0), both blank", x.joinLines(0), 0);
        Check.due("the lines", Check.allLines(x), "*|");
    }

    private static void promise08FullAndBad() {
        AutoIndenter x = Check.withLines(SIXTEEN, "abcdefghijklmno", SIXTEEN, SIXTEEN, THIRTY_TWO, "");
        Check.due("joinLines(6)", x.joinLines(6), AutoIndenter.BAD);
        Check.due("joinLines(5), the last one", x.joinLines(5), AutoIndenter.BAD);
        Check.due("joinLines(-1)", x.joinLines(-1), AutoIndenter.BAD);
        Check.due("joinLines(MAX)", x.joinLines(Integer.MAX_VALUE), AutoIndenter.BAD);
        Check.due("joinLines(2), 33 bytes", x.joinLines(2), AutoIndenter.FULL);
        Check.due("joinLines(0), 32 bytes", x.joinLines(0), 32);
        Check.due("joinLines(3), 32 bytes and none", x.joinLines(3), 32);
        Check.due("lines()", x.lines(), 4);
        x.clear();
        x.insertLine(3);
        Check.due("joinLines(3), none and 32 bytes", x.joinLines(3), 32);
        Check.due("joinLines(0) of none", new AutoIndenter().joinLines(0), AutoIndenter.BAD);
    }

    private static void promise09Shift() {
        AutoIndenter x = Check.withLines("  \"\"\" a", "", "   b", "    c", "d");
        x.pin(3);
        Check.due("shift(0, 4, 36)", x.shift(0, 4, 36), 3);
        Check.due("the indentation of a protected line", x.indentation(2), 39);
        Check.due("the indentation of a pinned line", x.indentation(3), 40);
        Check.due("the indentation of a blank line", x.indentation(1), 0);
        Check.due("the line behind", x.indentation(4), 0);
        Check.due("shift(0, 4, 1)", x.shift(0, 4, 1), AutoIndenter.STATE);
        Check.due("shift(0, 3, 1)", x.shift(0, 3, 1), 2);
        Check.due("shift(0, 3, -40)", x.shift(0, 3, -40), AutoIndenter.STATE);
        Check.due("shift(4, 5, -1)", x.shift(4, 5, -1), AutoIndenter.STATE);
        Check.due("shift(3, 4, -40)", x.shift(3, 4, -40), 1);
        Check.due("shift(1, 2, -40) of a blank line", x.shift(1, 2, -40), 0);
        Check.due("shift(5, 5, 0)", x.shift(5, 5, 0), 0);
        Check.due("shift(0, 6, 0)", x.shift(0, 6, 0), AutoIndenter.BAD);
        Check.due("shift(2, 1, 0)", x.shift(2, 1, 0), AutoIndenter.BAD);
        Check.due("shift(-1, 1, 0)", x.shift(-1, 1, 0), AutoIndenter.BAD);
        Check.due("shift(6, 6, 0)", x.shift(6, 6, 0), AutoIndenter.BAD);
        Check.due("shift(0, 1, 41)", x.shift(0, 1, 41), AutoIndenter.BAD);
        Check.due("shift(0, 1, -41)", x.shift(0, 1, -41), AutoIndenter.BAD);
        Check.due("shift(0, 0, MIN)", x.shift(0, 0, Integer.MIN_VALUE), AutoIndenter.BAD);
    }

    private static void promise10Pin() {
        AutoIndenter x = Check.withLines("a", "");
        Check.due("pin(0)", x.pin(0), 1);
        Check.due("pin(1), a blank line", x.pin(1), 1);
        Check.due("pin(0) again", x.pin(0), 0);
        Check.due("pin(2)", x.pin(2), AutoIndenter.BAD);
        Check.due("pin(-1)", x.pin(-1), AutoIndenter.BAD);
    }

    private static void promise11Reindent() {
        AutoIndenter x = Check.withLines("  {", "x", "{", "y", "}", "}");
        Check.pair(x, 0, "{}", 5, 1, 0, 0);
        Check.due("reindent(1, 4)", x.reindent(1, 4), 3);
        Check.due("the lines", Check.allLines(x), "  {|      x|      {|          y|}|}|");
        Check.due("reindent(1, 4) again", x.reindent(1, 4), 0);
        Check.due("reindent(0, 6)", x.reindent(0, 6), 5);
        Check.due("the lines", Check.allLines(x), "{|    x|    {|        y|    }|}|");
        Check.due("reindent(0, 6) again", x.reindent(0, 6), 0);
        Check.due("reindent(3, 3)", x.reindent(3, 3), 0);
        Check.due("reindent(0, 7)", x.reindent(0, 7), AutoIndenter.BAD);
        Check.due("reindent(-1, 2)", x.reindent(-1, 2), AutoIndenter.BAD);
        Check.due("reindent(3, 2)", x.reindent(3, 2), AutoIndenter.BAD);
        Check.due("reindent(7, 7)", x.reindent(7, 7), AutoIndenter.BAD);
        Check.due("reindent(6, 6)", x.reindent(6, 6), 0);
    }

    private static void promise11LeavesSomeLines() {
        AutoIndenter x = Check.withLines("  a", "   b \"\"\"", "     c", "", " d \"\"\" e", "f");
        x.setBase(4);
        x.pin(0);
        Check.due("reindent(0, 6)", x.reindent(0, 6), 2);
        Check.due("pinned, blank and protected lines stay", Check.allLines(x),
                "*  a|    b \"\"\"|     c|| d \"\"\" e|    f|");
    }

    private static void promise12To15Lines() {
        AutoIndenter x = Check.withLines("   a b", "");
        Check.due("lines()", x.lines(), 2);
        Check.due("indentation(0)", x.indentation(0), 3);
        Check.due("indentation(1)", x.indentation(1), 0);
        Check.due("indentation(2)", x.indentation(2), AutoIndenter.BAD);
        Check.due("indentation(-1)", x.indentation(-1), AutoIndenter.BAD);
        Check.due("length(0)", x.length(0), 3);
        Check.due("length(1)", x.length(1), 0);
        Check.due("length(2)", x.length(2), AutoIndenter.BAD);
        Check.due("length(-1)", x.length(-1), AutoIndenter.BAD);
        Check.due("byteAt(0, 0)", x.byteAt(0, 0), 97);
        Check.due("byteAt(0, 1)", x.byteAt(0, 1), 32);
        Check.due("byteAt(0, 2)", x.byteAt(0, 2), 98);
        Check.due("byteAt(0, 3)", x.byteAt(0, 3), AutoIndenter.NONE);
        Check.due("byteAt(0, MAX)", x.byteAt(0, Integer.MAX_VALUE), AutoIndenter.NONE);
        Check.due("byteAt(1, 0)", x.byteAt(1, 0), AutoIndenter.NONE);
        Check.due("byteAt(0, -1)", x.byteAt(0, -1), AutoIndenter.BAD);
        Check.due("byteAt(2, 0)", x.byteAt(2, 0), AutoIndenter.BAD);
        Check.due("byteAt(2, 99)", x.byteAt(2, 99), AutoIndenter.BAD);
        Check.due("byteAt(-1, 0)", x.byteAt(-1, 0), AutoIndenter.BAD);
    }

    private static void promise16IsProtected() {
        AutoIndenter x = Check.withLines("a \"\"\"", "b", "", "\"\"\" c", "d", "# \"\"\"", "e", "\"\"\"\"\"\"", "f");
        int[] due = {0, 1, 0, 1, 0, 0, 0, 0, 0};
        for (int i = 0; i < due.length; i++) {
            Check.due("isProtected(" + i + ")", x.isProtected(i), due[i]);
        }
        Check.due("isProtected(9)", x.isProtected(9), AutoIndenter.BAD);
        Check.due("isProtected(-1)", x.isProtected(-1), AutoIndenter.BAD);
        x = Check.withLines("\"\"\"\"", "\"\"\"\" x", "y");
        Check.due("a fourth quotation mark ends no literal", x.isProtected(1), 1);
        Check.due("behind the end a string begins", Check.tokensOf(x, 1), "3+3:2");
        Check.due("a string ends with its line", x.isProtected(2), 0);
        x = Check.withLines("\"\"\" \\\"\"\" x", "y");
        Check.due("a backslash means nothing in a literal", x.isProtected(1), 0);
    }

    private static void promise17IsPinned() {
        AutoIndenter x = Check.withLines("a", "b");
        Check.due("isPinned(0)", x.isPinned(0), 0);
        x.pin(0);
        Check.due("isPinned(0)", x.isPinned(0), 1);
        Check.due("isPinned(1)", x.isPinned(1), 0);
        x.pin(0);
        Check.due("isPinned(0)", x.isPinned(0), 0);
        Check.due("isPinned(2)", x.isPinned(2), AutoIndenter.BAD);
        Check.due("isPinned(-1)", x.isPinned(-1), AutoIndenter.BAD);
    }

    private static void refusedCallsAreNoChanges() {
        AutoIndenter x = Check.withLines("a");
        long before = x.digest();
        x.insertLine(5);
        x.replaceLine(1);
        x.removeLine(1);
        x.splitLine(0, 1);
        x.joinLines(0);
        x.shift(0, 1, -1);
        x.shift(0, 2, 1);
        x.pin(1);
        x.reindent(0, 2);
        Check.due("digest() behind refused calls", x.digest(), before);
        Check.due("undo() behind them", x.undo(), 0);
        Check.due("lines()", x.lines(), 0);
    }
}
