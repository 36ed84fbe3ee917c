import java.util.ArrayList;
import java.util.List;
import java.util.function.Supplier;

/** Every parameter of every call: each number in its range is taken, and those outside of it are refused. */
public final class ParametersTest {
    private static final int BAD = AutoIndenter.BAD, NONE = AutoIndenter.NONE;
    private static final int LOWEST = Integer.MIN_VALUE, GREATEST = Integer.MAX_VALUE;

    /** A call in which one argument is tried out. */
    private interface Taker {
        long take(AutoIndenter x, int v);
    }

    public static void main(String[] args) {
        buffer();
        placesOfLines();
        linesThatChange();
        bytesOfLines();
        ranges();
        linesThatAreAsked();
        settings();
        numbersOfRules();
        precedencesAndSteps();
        modes();
        stepAndBase();
        tokens();
        depths();
        blocks();
        commonestByte();
        images();
        draw();
        Check.finish();
    }

    /** Numbers outside of a range: its neighbours, the greatest ones, and those that look alike in fewer bits. */
    private static List<Integer> outside(int low, int high) {
        List<Integer> found = new ArrayList<>(List.of(low - 2, low - 1, high + 1, high + 2, LOWEST, GREATEST));
        for (int wrap : new int[] {1 << 8, 1 << 16, 1 << 24, LOWEST}) {
            found.add(low + wrap);
            found.add(high - wrap);
        }
        found.removeIf(v -> v >= low && v <= high);
        return found;
    }

    private static void takes(String call, Supplier<AutoIndenter> maker, int low, int high, Taker taker) {
        for (int v = low; v <= high; v++) {
            long got = taker.take(maker.get(), v);
            Check.due(call + " refuses " + v + " with " + got, got < 0 && got != NONE ? 1 : 0, 0);
        }
        for (int v : outside(low, high)) {
            Check.refused(call + " with " + v, maker, x -> taker.take(x, v), BAD);
        }
    }

    /** The call takes all lines that there are, however many there are, up to a number of them. */
    private static void takesLines(String call, int most, Taker taker) {
        for (int count : new int[] {0, 1, 7, most}) {
            takes(call + " of " + count + " lines", () -> Check.copies(count, " a ( b"), 0, count - 1, taker);
        }
    }

    private static void buffer() {
        Check.says(2, "`c`: the byte, 32 to 126");
        takes("type", Check::some, 32, 126, AutoIndenter::type);
    }

    private static void placesOfLines() {
        Check.says(4, "`i`: its index, 0 to the number of lines");
        for (int count : new int[] {0, 1, 7, 19}) {
            takes("insertLine to " + count + " lines", () -> Check.copies(count, " a"), 0, count,
                    AutoIndenter::insertLine);
        }
    }

    private static void linesThatChange() {
        Check.says(5, "`i`: the line");
        takesLines("replaceLine", 20, AutoIndenter::replaceLine);
        Check.says(6, "`i`: the line");
        takesLines("removeLine", 20, AutoIndenter::removeLine);
        Check.says(7, "`i`: the line");
        takesLines("splitLine", 19, (x, v) -> x.splitLine(v, 1));
        Check.says(8, "`i`: the first line");
        for (int count : new int[] {0, 1, 2, 7, 20}) {
            takes("joinLines of " + count + " lines", () -> Check.copies(count, " a ( b"), 0, count - 2,
                    AutoIndenter::joinLines);
        }
        Check.says(10, "`i`: the line");
        takesLines("pin", 20, AutoIndenter::pin);
    }

    private static void bytesOfLines() {
        String bytes32 = "abcdefghijklmnopqrstuvwxyz(){}[]";
        Check.says(7, "`k`: the index of a byte of its content, from 1");
        for (String content : new String[] {"", "a", "ab", "a      b", bytes32}) {
            takes("splitLine of '" + content + "'", () -> Check.withLines("  " + content), 1, content.length() - 1,
                    (x, v) -> x.splitLine(0, v));
        }
        Check.says(15, "`k`: the index of the byte");
        for (String content : new String[] {"", "a", "a b", bytes32}) {
            AutoIndenter x = Check.withLines("  " + content);
            for (int k = 0; k < content.length(); k++) {
                Check.due("byteAt(0, " + k + ")", x.byteAt(0, k), content.charAt(k));
            }
            for (int k : new int[] {content.length(), 33, 40, 640, GREATEST - 1, GREATEST}) {
                Check.due("byteAt(0, " + k + ")", x.byteAt(0, k), NONE);
            }
            for (int k : new int[] {-1, -2, LOWEST, LOWEST + 1}) {
                Check.due("byteAt(0, " + k + ")", x.byteAt(0, k), BAD);
            }
        }
    }

    /** What a call with a range has for its parameters; the range lies in seven lines. */
    private static void range(String call, Supplier<AutoIndenter> maker, RangeTaker taker) {
        for (int end = 0; end <= 7; end++) {
            int to = end;
            takes(call + " up to " + to, maker, 0, to, (x, v) -> taker.take(x, v, to));
            takes(call + " from " + to, maker, to, 7, (x, v) -> taker.take(x, to, v));
        }
        Check.refused(call + " far behind", maker, x -> taker.take(x, 8, 8), BAD);
        Check.refused(call + " far before", maker, x -> taker.take(x, -1, -1), BAD);
        Check.refused(call + " of everything", maker, x -> taker.take(x, LOWEST, GREATEST), BAD);
        Check.refused(call + " turned round", maker, x -> taker.take(x, GREATEST, LOWEST), BAD);
    }

    private interface RangeTaker {
        long take(AutoIndenter x, int from, int to);
    }

    private static void ranges() {
        Supplier<AutoIndenter> seven = () -> Check.copies(7, "   a ( b");
        Check.says(9, "`from`: the first line, 0 to the number of lines",
                "`to`: the line behind the last one, from to the number of lines");
        range("shift", seven, (x, from, to) -> x.shift(from, to, -3));
        Check.says(11, "`from`: the first line, 0 to the number of lines",
                "`to`: the line behind the last one, from to the number of lines");
        range("reindent", seven, AutoIndenter::reindent);
        Check.says(9, "`d`: what is added to the indentations, -40 to 40");
        takes("shift of no line", seven, -40, 40, (x, v) -> x.shift(7, 7, v));
        takes("shift of blank lines", () -> Check.copies(3, ""), -40, 40, (x, v) -> x.shift(0, 3, v));
        for (int d = 0; d <= 40; d++) {
            Check.due("shift(0, 1, " + d + ")", Check.withLines("a").shift(0, 1, d), 1);
            Check.due("shift(0, 1, " + -d + ")", Check.withLines(" ".repeat(40) + "a").shift(0, 1, -d), 1);
        }
    }

    private static void linesThatAreAsked() {
        Check.says(13, "`i`: the line");
        takesLines("indentation", 20, AutoIndenter::indentation);
        Check.says(14, "`i`: the line");
        takesLines("length", 20, AutoIndenter::length);
        Check.says(15, "`i`: the line");
        takesLines("byteAt", 20, (x, v) -> x.byteAt(v, 0));
        takesLines("byteAt behind the end", 20, (x, v) -> x.byteAt(v, 32));
        Check.says(16, "`i`: the line");
        takesLines("isProtected", 20, AutoIndenter::isProtected);
        Check.says(17, "`i`: the line");
        takesLines("isPinned", 20, AutoIndenter::isPinned);
        Check.says(25, "`i`: the line");
        takesLines("wanted", 20, AutoIndenter::wanted);
        Check.says(26, "`i`: the line");
        takesLines("reason", 20, AutoIndenter::reason);
        Check.says(27, "`i`: the line");
        takesLines("decidingRule", 20, AutoIndenter::decidingRule);
        Check.says(33, "`i`: the line");
        takesLines("tokens", 20, AutoIndenter::tokens);
    }

    private static void settings() {
        Check.says(18, "`v`: the new step, 1 to 8");
        takes("setStep", Check::some, 1, 8, AutoIndenter::setStep);
        Check.says(19, "`v`: the new base, 0 to 20");
        takes("setBase", Check::some, 0, 20, AutoIndenter::setBase);
        Check.says(20, "`c`: the new comment byte (see above), or 0 for none");
        takes("setComment", Check::some, 0, 0, AutoIndenter::setComment);
        for (int c = 33; c <= 126; c++) {
            if (isCommentByte(c)) {
                Check.due("setComment(" + c + ")", Check.some().setComment(c), 35);
            } else {
                int refused = c;
                Check.refused("setComment(" + c + ")", Check::some, x -> x.setComment(refused), BAD);
            }
        }
    }

    private static boolean isCommentByte(int c) {
        return c >= 33 && c <= 126 && !String.valueOf((char) c).matches("[A-Za-z0-9_\"]");
    }

    private static AutoIndenter withPairText() {
        return Check.buffered(Check.some(), " { } ");
    }

    private static AutoIndenter withText() {
        return Check.buffered(Check.some(), " until ");
    }

    private static void numbersOfRules() {
        Check.says(21, "`r`: the rule, 0 to 11");
        takes("pair", ParametersTest::withPairText, 0, 11, (x, v) -> x.pair(v, 5, 1, 0, 0));
        Check.says(22, "`r`: the rule, 0 to 11");
        takes("starter", ParametersTest::withText, 0, 11, (x, v) -> x.starter(v, 5, 1));
        Check.says(23, "`r`: the rule, 0 to 11");
        takes("joiner", ParametersTest::withText, 0, 11, (x, v) -> x.joiner(v, 5, 1));
        Check.says(24, "`r`: the rule, 0 to 11");
        takes("dropRule", Check::full, 0, 11, AutoIndenter::dropRule);
    }

    private static void precedencesAndSteps() {
        Check.says(21, "`precedence`: its precedence, 0 to 9");
        takes("pair", ParametersTest::withPairText, 0, 9, (x, v) -> x.pair(0, v, 1, 0, 0));
        Check.says(22, "`precedence`: its precedence, 0 to 9");
        takes("starter", ParametersTest::withText, 0, 9, (x, v) -> x.starter(0, v, 1));
        Check.says(23, "`precedence`: its precedence, 0 to 9");
        takes("joiner", ParametersTest::withText, 0, 9, (x, v) -> x.joiner(0, v, 1));
        Check.says(21, "`steps`: its steps, 0 to 4");
        takes("pair", ParametersTest::withPairText, 0, 4, (x, v) -> x.pair(0, 5, v, 0, 0));
        Check.says(22, "`steps`: its steps, -4 to 4");
        takes("starter", ParametersTest::withText, -4, 4, (x, v) -> x.starter(0, 5, v));
        Check.says(23, "`steps`: its steps, -4 to 4");
        takes("joiner", ParametersTest::withText, -4, 4, (x, v) -> x.joiner(0, 5, v));
    }

    private static void modes() {
        Check.says(21, "`aligned`: its mode, 0 or 1");
        takes("pair", ParametersTest::withPairText, 0, 1, (x, v) -> x.pair(0, 5, 1, v, 0));
        Check.says(21, "`closing`: its closing mode, 0 to 2");
        takes("pair", ParametersTest::withPairText, 0, 2, (x, v) -> x.pair(0, 5, 1, 0, v));
    }

    private static void stepAndBase() {
        Check.says(29, "`step`: the step, 1 to 8");
        takes("changesWith", Check::some, 1, 8, (x, v) -> x.changesWith(v, 0));
        takes("changesWith", Check::some, 1, 8, (x, v) -> x.changesWith(v, 20));
        Check.says(29, "`base`: the base, 0 to 20");
        takes("changesWith", Check::some, 0, 20, (x, v) -> x.changesWith(1, v));
        takes("changesWith", Check::some, 0, 20, (x, v) -> x.changesWith(8, v));
    }

    /** The index of a token in a line, in lines that have so many tokens. */
    private static void tokenIndex(String call, RangeTaker taker) {
        String[] contents = {"", "# c", "a", "a ( b", "\"s\" b", "+".repeat(32)};
        int[] counts = {0, 0, 1, 3, 2, 32};
        for (int n = 0; n < counts.length; n++) {
            String content = contents[n];
            Supplier<AutoIndenter> maker = () -> Check.withLines("z z z", " " + content, "z z z");
            takes(call + " in '" + content + "'", maker, 0, counts[n] - 1, (x, v) -> taker.take(x, 1, v));
        }
    }

    private static void tokens() {
        Check.says(34, "`i`: the line", "`k`: the index of the token in the line");
        takesLines("tokenAt", 20, (x, v) -> x.tokenAt(v, 2));
        tokenIndex("tokenAt", AutoIndenter::tokenAt);
        Check.says(35, "`i`: the line", "`k`: the index of the token in the line");
        takesLines("tokenLength", 20, (x, v) -> x.tokenLength(v, 2));
        tokenIndex("tokenLength", AutoIndenter::tokenLength);
        Check.says(36, "`i`: the line", "`k`: the index of the token in the line");
        takesLines("tokenKind", 20, (x, v) -> x.tokenKind(v, 2));
        tokenIndex("tokenKind", AutoIndenter::tokenKind);
        Check.says(37, "`i`: the line", "`k`: the index of the token in the line");
        takesLines("openedBy", 20, (x, v) -> x.openedBy(v, 2));
        tokenIndex("openedBy", AutoIndenter::openedBy);
        Check.says(38, "`i`: the line", "`k`: the index of the token in the line");
        takesLines("closedBy", 20, (x, v) -> x.closedBy(v, 2));
        tokenIndex("closedBy", AutoIndenter::closedBy);
    }

    private static void depths() {
        Check.says(39, "`i`: the line, or the number of lines for the end");
        for (int count : new int[] {0, 1, 7, 20}) {
            takes("depth in " + count + " lines", () -> withOpenBlocks(count), 0, count, AutoIndenter::depth);
        }
    }

    /** Each line opens a block, so that before line i there are i of them, but at most twelve. */
    private static AutoIndenter withOpenBlocks(int count) {
        AutoIndenter x = Check.copies(count, " a (");
        Check.pair(x, 4, "()", 5, 1, 0, 0);
        return x;
    }

    private static void openBlocks(String call, RangeTaker taker) {
        for (int count : new int[] {0, 1, 7, 20}) {
            Supplier<AutoIndenter> maker = () -> withOpenBlocks(count);
            takes(call + " in " + count + " lines", maker, 1, count, (x, v) -> taker.take(x, v, 0));
            for (int i = 0; i <= count; i++) {
                int line = i;
                takes(call + " before line " + i, maker, 0, Math.min(12, i) - 1, (x, v) -> taker.take(x, line, v));
            }
        }
    }

    private static void blocks() {
        Check.says(40, "`i`: the line before which it is open, as for depth()",
                "`k`: the index of the block in the stack, 0 for the lowest one");
        openBlocks("blockRule", AutoIndenter::blockRule);
        Check.says(41, "`i`: the line before which it is open, as for depth()",
                "`k`: the index of the block in the stack, 0 for the lowest one");
        openBlocks("blockOpening", AutoIndenter::blockOpening);
        for (int k = 0; k < 12; k++) {
            Check.due("blockOpening(20, " + k + ")", withOpenBlocks(20).blockOpening(20, k), 100 * k + 3);
        }
        Check.says(42, "`i`: the line before which it is open, as for depth()",
                "`k`: the index of the block in the stack, 0 for the lowest one");
        openBlocks("contentColumn", AutoIndenter::contentColumn);
    }

    private static void commonestByte() {
        Check.says(47, "`k`: the index of the byte");
        for (String word : new String[] {"a", "ab", "abcdefghijklmnopqrstuvwxyz012345"}) {
            AutoIndenter x = Check.withLines(word);
            for (int k = 0; k < word.length(); k++) {
                Check.due("commonestByte(" + k + ")", x.commonestByte(k), word.charAt(k));
            }
            for (int k : new int[] {word.length(), 32, 640, GREATEST - 1, GREATEST}) {
                Check.due("commonestByte(" + k + ")", x.commonestByte(k), NONE);
            }
            for (int k : new int[] {-1, -2, LOWEST, LOWEST + 1}) {
                Check.due("commonestByte(" + k + ")", x.commonestByte(k), BAD);
            }
        }
    }

    private static AutoIndenter withImages() {
        AutoIndenter x = Check.some();
        x.keep(0);
        x.keep(1);
        return x;
    }

    private static void images() {
        Check.says(49, "`k`: the image, 0 or 1");
        takes("keep", Check::some, 0, 1, AutoIndenter::keep);
        Check.says(50, "`k`: the image, 0 or 1");
        takes("back", ParametersTest::withImages, 0, 1, AutoIndenter::back);
    }

    private static void draw() {
        Check.says(51, "`n`: how many lines, 1 to 12");
        takes("draw", Check::some, 1, 12, (x, v) -> x.draw(7, v));
        takes("draw", Check::full, 1, 12, (x, v) -> x.draw(7, v));
        Check.says(51, "`seed`: the first x");
        for (int seed : new int[] {0, 1, -1, 7, 65536, LOWEST, LOWEST + 1, GREATEST, GREATEST - 1}) {
            AutoIndenter x = new AutoIndenter();
            Check.due("draw(" + seed + ", 1)", x.draw(seed, 1), 1);
            int first = seed * 1103515245 + 12345;
            Check.due("indentation(0)", x.indentation(0), ((first >>> 16) & 32767) % 12);
        }
    }
}
