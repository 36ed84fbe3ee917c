/** Promises 48 to 52: undo, images, random lines and the digest. */
public final class HistoryTest {
    public static void main(String[] args) {
        promise48Undo();
        promise48EightStates();
        promise48EveryChange();
        promise48RulesWithAllTheyHave();
        promise48BufferAndImagesStay();
        promise49Keep();
        promise50Back();
        promise50ForgetsStates();
        promise51Draw();
        promise51Pieces();
        promise51Bounds();
        promise52DigestOfNewObject();
        promise52Digest();
        promise52DigestTellsAll();
        Check.finish();
    }

    private static void promise48Undo() {
        AutoIndenter x = new AutoIndenter();
        Check.due("undo() of none", x.undo(), AutoIndenter.STATE);
        Check.addLines(x, "  a", "b");
        Check.due("undo()", x.undo(), 1);
        Check.due("the lines", Check.allLines(x), "  a|");
        Check.due("undo()", x.undo(), 0);
        Check.due("lines()", x.lines(), 0);
        Check.due("undo() of none", x.undo(), AutoIndenter.STATE);
    }

    private static void promise48EightStates() {
        AutoIndenter x = new AutoIndenter();
        for (int n = 1; n <= 11; n++) {
            x.insertLine(0);
        }
        for (int left = 7; left >= 0; left--) {
            Check.due("undo()", x.undo(), left);
            Check.due("lines()", x.lines(), left + 3);
        }
        Check.due("undo() of none", x.undo(), AutoIndenter.STATE);
        Check.due("lines()", x.lines(), 3);
        x.insertLine(0);
        Check.due("undo() behind a change", x.undo(), 0);
    }

    private static void promise48EveryChange() {
        AutoIndenter x = Check.withLines("( ab", "c +", "d");
        for (int change = 0; change < 16; change++) {
            x.keep(0);
            x.back(0);
            long before = x.digest();
            change(x, change);
            Check.due("undo() of change " + change, x.undo(), 0);
            Check.put(x, "d");
            Check.due("digest() behind it", x.digest(), before);
        }
    }

    private static void change(AutoIndenter x, int number) {
        switch (number) {
            case 0: Check.put(x, "q"); Check.due("insertLine", x.insertLine(1), 4); break;
            case 1: Check.put(x, "q"); Check.due("replaceLine", x.replaceLine(1), 0); break;
            case 2: Check.due("removeLine", x.removeLine(1), 2); break;
            case 3: Check.due("splitLine", x.splitLine(0, 3), 0); break;
            case 4: Check.due("joinLines", x.joinLines(0), 8); break;
            case 5: Check.due("shift", x.shift(0, 2, 3), 2); break;
            case 6: Check.due("pin", x.pin(2), 1); break;
            case 7: Check.due("setStep", x.setStep(4), 4); break;
            case 8: Check.due("setBase", x.setBase(5), 0); break;
            case 9: Check.due("setComment", x.setComment(0), 35); break;
            case 10: Check.due("pair", Check.pair(x, 0, "()", 1, 1, 1, 1), 0); break;
            case 11: Check.due("starter", Check.starter(x, 0, "a", 1, 1), 0); break;
            case 12: Check.due("joiner", Check.joiner(x, 0, "a", 1, 1), 0); break;
            case 13: Check.due("draw", x.draw(3, 2), 2); break;
            case 14: Check.due("reindent", x.reindent(0, 3), 0); break;
            default:
                Check.joiner(x, 0, "+", 1, 1);
                Check.due("dropRule", x.dropRule(0), 0);
                Check.due("undo() of dropRule", x.undo(), 1);
                Check.due("wanted(2) by the joiner", x.wanted(2), 4);
                break;
        }
    }

    private static void promise48RulesWithAllTheyHave() {
        AutoIndenter x = Check.withLines("ab (");
        Check.pair(x, 0, "()", 1, 2, 1, 2);
        Check.starter(x, 1, "ab", 3, -1);
        Check.joiner(x, 2, "+", 4, 3);
        long before = x.digest();
        x.keep(0);
        Check.pair(x, 0, "begin end", 2, 3, 0, 1);
        Check.joiner(x, 1, "xyz", 5, 2);
        Check.starter(x, 2, "z", 6, -3);
        x.undo();
        x.undo();
        Check.due("undo()", x.undo(), 4);
        Check.due("the text buffer", x.clear(), 1);
        Check.put(x, "+");
        x.removeLine(0);
        x.undo();
        x.keep(1);
        AutoIndenter y = Check.withLines("ab (");
        Check.pair(y, 0, "()", 1, 2, 1, 2);
        Check.starter(y, 1, "ab", 3, -1);
        Check.joiner(y, 2, "+", 4, 3);
        Check.due("digest() without images", y.digest(), before);
        y.keep(0);
        y.keep(1);
        Check.due("digest() behind undo()", x.digest(), y.digest());
        Check.pair(x, 0, "begin end", 2, 3, 0, 1);
        Check.joiner(x, 1, "xyz", 5, 2);
        Check.starter(x, 2, "z", 6, -3);
        Check.due("wanted(0)", x.wanted(0), 0);
        x.back(0);
        y.back(0);
        Check.put(x, "+");
        Check.due("blockRule(1, 0) behind back()", x.blockRule(1, 0), 0);
        Check.due("digest() behind back()", x.digest(), y.digest());
    }

    private static void promise48BufferAndImagesStay() {
        AutoIndenter x = Check.withLines("a");
        x.keep(1);
        x.pin(0);
        Check.put(x, "bcd");
        Check.due("undo()", x.undo(), 1);
        Check.due("isPinned(0)", x.isPinned(0), 0);
        Check.due("clear()", x.clear(), 3);
        Check.due("back(1)", x.back(1), 1);
    }

    private static void promise49Keep() {
        AutoIndenter x = Check.withLines("a");
        Check.due("keep(-1)", x.keep(-1), AutoIndenter.BAD);
        Check.due("keep(2)", x.keep(2), AutoIndenter.BAD);
        Check.due("keep(0)", x.keep(0), 0);
        Check.due("keep(1)", x.keep(1), 0);
        Check.due("keep(0) again", x.keep(0), 1);
        Check.due("keep(1) again", x.keep(1), 1);
        Check.due("keep() is no change", x.undo(), 0);
        Check.due("keep(0) of no line", x.keep(0), 1);
        Check.due("back(1)", x.back(1), 1);
        Check.due("back(0), in place of the one before", x.back(0), 0);
    }

    private static void promise50Back() {
        AutoIndenter x = Check.withLines(" a (", "b");
        Check.pair(x, 2, "()", 1, 2, 1, 2);
        x.pin(1);
        x.setStep(3);
        x.setBase(2);
        x.setComment(59);
        Check.due("keep(0)", x.keep(0), 0);
        Check.due("back(1), which is empty", x.back(1), AutoIndenter.BAD);
        Check.due("back(2)", x.back(2), AutoIndenter.BAD);
        Check.due("back(-1)", x.back(-1), AutoIndenter.BAD);
        x.removeLine(0);
        x.pin(0);
        x.dropRule(2);
        x.setStep(1);
        x.setBase(1);
        x.setComment(0);
        Check.due("back(0)", x.back(0), 2);
        Check.due("the lines", Check.allLines(x), " a (|*b|");
        Check.due("the wanted indentations", Check.wantedOfAll(x), "2 7");
        Check.due("the comment byte", x.setComment(35), 59);
        Check.due("the image stays", x.back(0), 2);
        Check.due("the comment byte", x.setComment(35), 59);
    }

    private static void promise50ForgetsStates() {
        AutoIndenter x = Check.withLines("a", "b");
        x.keep(0);
        Check.due("back(0)", x.back(0), 2);
        Check.due("undo()", x.undo(), AutoIndenter.STATE);
        x.pin(0);
        Check.due("a refused back() forgets nothing", x.back(1), AutoIndenter.BAD);
        Check.due("undo()", x.undo(), 0);
        x.pin(0);
        x.removeLine(1);
        Check.due("a change leaves the image", x.back(0), 2);
        Check.due("isPinned(0)", x.isPinned(0), 0);
    }

    private static void promise51Draw() {
        AutoIndenter x = Check.withLines("q");
        x.pin(0);
        Check.due("draw(1, 0)", x.draw(1, 0), AutoIndenter.BAD);
        Check.due("draw(1, 13)", x.draw(1, 13), AutoIndenter.BAD);
        Check.due("draw(1, -1)", x.draw(1, -1), AutoIndenter.BAD);
        Check.due("draw(-77, 2)", x.draw(-77, 2), 2);
        Check.due("the lines", Check.allLines(x), "*q|" + drawn(-77, 2));
        Check.due("undo() of draw()", x.undo(), 2);
        Check.due("lines()", x.lines(), 1);
    }

    private static void promise51Pieces() {
        int[] seeds = {0, 1, -1, 5, 99, 123456789, Integer.MIN_VALUE, Integer.MAX_VALUE};
        for (int seed : seeds) {
            AutoIndenter x = new AutoIndenter();
            Check.due("draw(" + seed + ", 12)", x.draw(seed, 12), 12);
            Check.due("the lines of " + seed, Check.allLines(x), drawn(seed, 12));
        }
    }

    private static String drawn(int seed, int n) {
        String[] pieces = {"a(", ")", "{", "}", "[x,", "]", "begin", "end", "case", "\"s\"", "#c", "y+", "\"\"\"", "z",
            "f(b,", ";"};
        StringBuilder text = new StringBuilder();
        int[] x = {seed};
        for (int j = 0; j < n; j++) {
            text.append(" ".repeat(number(x) % 12));
            int count = 1 + number(x) % 3;
            for (int p = 0; p < count; p++) {
                text.append(p == 0 ? "" : " ").append(pieces[number(x) % 16]);
            }
            text.append('|');
        }
        return text.toString();
    }

    private static int number(int[] x) {
        x[0] = x[0] * 1103515245 + 12345;
        return (x[0] >>> 16) & 32767;
    }

    private static void promise51Bounds() {
        AutoIndenter x = new AutoIndenter();
        Check.due("draw(7, 12)", x.draw(7, 12), 12);
        Check.due("draw(8, 12) of 12 lines", x.draw(8, 12), 8);
        Check.due("lines()", x.lines(), 20);
        Check.due("draw(9, 1) of 20 lines", x.draw(9, 1), 0);
        Check.due("it is a change", x.undo(), 2);
        Check.due("draw(9, 13) of 20 lines", x.draw(9, 13), AutoIndenter.BAD);
    }

    private static long hash(int... values) {
        long h = 18310;
        for (int v : values) {
            h = 31 * h + v;
        }
        return h;
    }

    private static void promise52DigestOfNewObject() {
        Check.due("digest() of a new object", new AutoIndenter().digest(),
                hash(0, 4, 0, 35, 0, 0, 0, 0, 0, 0, 0, 0, 0, 0, 0, 0, 0, 0, 0));
    }

    private static void promise52Digest() {
        AutoIndenter x = Check.withLines("  a(", "", "\"\"\"", " z");
        Check.pair(x, 1, "(ab", 5, 2, 1, 2);
        Check.starter(x, 3, "c", 6, -1);
        Check.joiner(x, 11, "+", 7, 3);
        x.pin(1);
        x.setStep(2);
        x.setBase(1);
        x.setComment(0);
        x.keep(1);
        Check.put(x, "hello");
        Check.due("digest()", x.digest(), hash(4,
                2, 2, 97, 40, 0, 1,
                0, 0, 1, -9,
                0, 3, 34, 34, 34, 0, 6,
                1, 1, 122, 0, -9,
                2, 1, 0,
                0,
                1, 5, 2, 1, 2, 40, 32, 97, 98,
                0,
                2, 6, -1, 99,
                0, 0, 0, 0, 0, 0, 0,
                3, 7, 3, 43,
                8, 1, 5));
        x.undo();
        x.keep(0);
        x.clear();
        Check.due("digest() behind undo(), keep() and clear()", x.digest(), hash(4,
                2, 2, 97, 40, 0, 1,
                0, 0, 1, -9,
                0, 3, 34, 34, 34, 0, 6,
                1, 1, 122, 0, -9,
                2, 1, 35,
                0,
                1, 5, 2, 1, 2, 40, 32, 97, 98,
                0,
                2, 6, -1, 99,
                0, 0, 0, 0, 0, 0, 0,
                3, 7, 3, 43,
                7, 2, 0));
    }

    private static void promise52DigestTellsAll() {
        AutoIndenter x = Check.withLines("a", "b");
        long first = x.digest();
        Check.due("digest() again", x.digest(), first);
        x.pin(0);
        Check.due("digest() tells a pin", x.digest() == first ? 1 : 0, 0);
        x.undo();
        Check.due("digest() behind undo()", x.digest(), first);
        x.type(97);
        Check.due("digest() tells the text buffer", x.digest() == first ? 1 : 0, 0);
    }
}
