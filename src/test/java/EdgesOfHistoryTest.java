import java.util.ArrayList;
import java.util.List;
import java.util.function.Supplier;

/** Promises 48 to 52, each sentence at its edges. */
public final class EdgesOfHistoryTest {
    private static final int BAD = AutoIndenter.BAD, STATE = AutoIndenter.STATE;
    private static final String[] PIECES = {"a(", ")", "{", "}", "[x,", "]", "begin", "end", "case", "\"s\"", "#c", "y+",
        "\"\"\"", "z", "f(b,", ";"};

    public static void main(String[] args) {
        undo();
        undoOfRules();
        undoBehindUndo();
        undoWithNone();
        keep();
        keepRefused();
        back();
        backWithStates();
        backRefused();
        drawCounts();
        drawNumbers();
        drawnPieces();
        drawnLinesAreNotPinned();
        drawRefused();
        digestOfNothing();
        digestOfLines();
        digestOfRules();
        digestOfTheRest();
        digestWrapsAround();
        as512Calls();
        Check.finish();
    }

    private static void undo() {
        Check.says(48, "Returns to the latest remembered state, which is not remembered any more then.",
                "Returns how many states are still remembered");
        for (int changes = 1; changes <= 20; changes++) {
            AutoIndenter x = new AutoIndenter();
            List<Long> digests = new ArrayList<>();
            for (int n = 0; n < changes; n++) {
                digests.add(withoutCounts(x));
                Check.put(x, " ".repeat(n) + "a");
                x.insertLine(n);
            }
            int left = Math.min(8, changes);
            while (left > 0) {
                left--;
                Check.due("undo() of " + changes, x.undo(), left);
                changes(x, digests, changes - Math.min(8, changes) + left);
            }
            Check.due("undo() beyond " + changes, x.undo(), STATE);
        }
    }

    private static void changes(AutoIndenter x, List<Long> digests, int n) {
        Check.due("the state behind " + n + " changes", withoutCounts(x), digests.get(n));
    }

    /** A hash of the lines alone, with which states can be compared whatever is remembered. */
    private static long withoutCounts(AutoIndenter x) {
        long h = x.lines();
        for (int i = 0; i < x.lines(); i++) {
            h = 31 * h + x.indentation(i);
            h = 31 * h + x.length(i);
            h = 31 * h + x.isPinned(i);
        }
        return h;
    }

    /** A rule comes back with all that it has, and what was asked in between does not matter. */
    private static void undoOfRules() {
        Check.says(48, "Returns to the latest remembered state");
        for (int from = 0; from < 3; from++) {
            for (int to = 0; to < 4; to++) {
                AutoIndenter x = Check.withLines(" ab ( ab", "c", "abc )", ") ab");
                AutoIndenter twin = Check.withLines(" ab ( ab", "c", "abc )", ") ab");
                make(x, from, "ab", ")", 3);
                make(twin, from, "ab", ")", 3);
                String before = answers(x);
                x.keep(0);
                make(x, to, "(", "abc", 5);
                answers(x);
                Check.due("undo()", x.undo(), 5);
                Check.due("behind undo(), from " + from + " to " + to, answers(x), before);
                make(x, to, "(", "abc", 5);
                answers(x);
                Check.due("back(0)", x.back(0), 4);
                Check.due("behind back(), from " + from + " to " + to, answers(x), before);
                Check.put(x, "a");
                Check.put(twin, "a");
                twin.keep(0);
                twin.back(0);
                Check.due("digest()", x.digest(), twin.digest());
            }
        }
    }

    private static void make(AutoIndenter x, int sort, String first, String second, int precedence) {
        switch (sort) {
            case 0: Check.pair(x, 7, first + " " + second, precedence, 2, precedence == 3 ? 1 : 0, precedence - 3); break;
            case 1: Check.starter(x, 7, first, precedence, precedence - 7); break;
            case 2: Check.joiner(x, 7, first, precedence, precedence - 1); break;
            default: x.dropRule(7); break;
        }
    }

    private static String answers(AutoIndenter x) {
        return Check.wantedOfAll(x) + " " + x.strays() + " " + x.depth(1) + " " + x.depth(3) + " " + x.reason(1) + " "
                + x.decidingRule(2) + " " + x.closedBy(0, 0) + " " + x.wouldChange();
    }

    private static void undoBehindUndo() {
        Check.says(48, "which is not remembered any more then");
        AutoIndenter x = Check.copies(9, "a");
        Check.due("undo()", x.undo(), 7);
        Check.due("insertLine(0)", x.insertLine(0), 9);
        Check.due("undo()", x.undo(), 7);
        Check.due("undo()", x.undo(), 6);
        Check.due("lines()", x.lines(), 7);
        for (int n = 0; n < 30; n++) {
            x.setBase(n % 20);
            x.setBase(20);
            Check.due("undo()", x.undo(), 7);
            Check.due("wanted(0)", x.wanted(0), n % 20);
        }
        for (int left = 6; left >= 0; left--) {
            Check.due("undo()", x.undo(), left);
        }
        Check.due("undo()", x.undo(), STATE);
    }

    private static void undoWithNone() {
        Check.says(48, "STATE if there is none.");
        Check.refused("undo() of a new object", AutoIndenter::new, x -> x.undo(), STATE);
        Supplier<AutoIndenter> used = () -> {
            AutoIndenter x = Check.copies(20, "a");
            x.keep(0);
            for (int n = 0; n < 8; n++) {
                x.undo();
            }
            return x;
        };
        Check.due("20 changes and 8 undo()", used.get().lines(), 12);
        Check.refused("undo() behind 8 of 20", used, x -> x.undo(), STATE);
        Supplier<AutoIndenter> behindBack = () -> {
            AutoIndenter x = Check.full();
            x.back(0);
            return x;
        };
        Check.refused("undo() behind back()", behindBack, x -> x.undo(), STATE);
    }

    private static void keep() {
        Check.says(49, "Saves the present state as an image, in place of the one before.",
                "Returns 1 if there was an image before, otherwise 0");
        AutoIndenter x = new AutoIndenter();
        Check.due("keep(0) of nothing", x.keep(0), 0);
        Check.due("back(0) of nothing", x.back(0), 0);
        Check.addLines(x, "a");
        Check.due("keep(1)", x.keep(1), 0);
        Check.addLines(x, "b");
        Check.due("keep(0) again", x.keep(0), 1);
        Check.due("back(1)", x.back(1), 1);
        Check.due("back(0), in place of the one before", x.back(0), 2);
        Check.due("keep(1) again", x.keep(1), 1);
        Check.due("back(1)", x.back(1), 2);
        x = Check.full();
        Check.due("keep(0) of 20 lines", x.keep(0), 1);
        for (int n = 0; n < 20; n++) {
            x.removeLine(0);
        }
        Check.due("back(0) of 20 lines", x.back(0), 20);
        Check.due("indentation(18)", x.indentation(18), 40);
        Check.due("all 12 rules", x.dropRule(11), 11);
        Check.says(49, "(This is no change.)");
        x = Check.copies(3, "a");
        x.keep(0);
        x.keep(1);
        x.keep(0);
        Check.due("undo() behind keep()", x.undo(), 2);
        Check.due("lines()", x.lines(), 2);
        x = new AutoIndenter();
        x.keep(0);
        Check.due("undo() behind keep() alone", x.undo(), STATE);
    }

    private static void keepRefused() {
        Check.says(49, "BAD if k is out of range.");
        for (int k : new int[] {-1, 2, 3}) {
            Check.refused("keep(" + k + ")", AutoIndenter::new, x -> x.keep(k), BAD);
            Check.refused("keep(" + k + ")", Check::some, x -> x.keep(k), BAD);
            Check.refused("keep(" + k + ")", Check::full, x -> x.keep(k), BAD);
        }
    }

    private static void back() {
        Check.says(50, "Restores the state that is saved as an image; the image stays.",
                "Returns the number of lines then");
        AutoIndenter x = Check.some();
        x.keep(0);
        String lines = Check.allLines(x);
        String wanted = Check.wantedOfAll(x);
        for (int n = 0; n < 3; n++) {
            x.removeLine(4);
            x.shift(0, 1, 7);
            x.pin(2);
            x.dropRule(0);
            x.setStep(8);
            x.setComment(0);
            Check.due("back(0)", x.back(0), 5);
            Check.due("the lines", Check.allLines(x), lines);
            Check.due("the wanted indentations", Check.wantedOfAll(x), wanted);
        }
        Check.due("the step", x.setStep(4), 4);
        Check.due("the base", x.setBase(2), 2);
        Check.due("the comment byte", x.setComment(35), 35);
        Check.due("the text buffer is no part of it", x.clear(), 5);
        Check.due("the other image", x.back(1), 5);
        Check.due("its base", x.setBase(0), 0);
        x.keep(0);
        x.undo();
        Check.due("undo() leaves the images", x.back(0), 5);
    }

    private static void backWithStates() {
        Check.says(50, "Restores the state that is saved as an image");
        AutoIndenter x = Check.copies(12, "a");
        x.keep(1);
        Check.due("back(1)", x.back(1), 12);
        Check.due("undo()", x.undo(), STATE);
        for (int n = 1; n <= 9; n++) {
            x.setBase(n);
        }
        for (int left = 7; left >= 0; left--) {
            Check.due("undo()", x.undo(), left);
            Check.due("wanted(0)", x.wanted(0), left + 1);
        }
        Check.due("undo()", x.undo(), STATE);
        Check.due("back() is no change", x.back(1) + x.undo(), 12 + STATE);
    }

    private static void backRefused() {
        Check.says(50, "BAD if k is out of range, or there is no such image.");
        for (int k : new int[] {-1, 2, 3}) {
            Check.refused("back(" + k + ")", AutoIndenter::new, x -> x.back(k), BAD);
            Check.refused("back(" + k + ")", Check::some, x -> x.back(k), BAD);
            Check.refused("back(" + k + ")", Check::full, x -> x.back(k), BAD);
        }
        Check.refused("back(0), empty", AutoIndenter::new, x -> x.back(0), BAD);
        Check.refused("back(1), empty", AutoIndenter::new, x -> x.back(1), BAD);
        Check.refused("back(0), the other one is there", Check::some, x -> x.back(0), BAD);
        Check.refused("back(1), the other one is there", () -> {
            AutoIndenter x = Check.withLines("a");
            x.keep(0);
            return x;
        }, x -> x.back(1), BAD);
    }

    private static void drawCounts() {
        Check.says(51, "Adds random lines behind the last one, as many as given, but only as long as there are fewer than"
                + " 20.", "Returns how many lines are added");
        for (int before = 0; before <= 20; before++) {
            for (int n : new int[] {1, 2, 11, 12}) {
                AutoIndenter x = Check.copies(before, "q");
                int due = Math.min(n, 20 - before);
                Check.due("draw(5, " + n + ") behind " + before, x.draw(5, n), due);
                Check.due("lines()", x.lines(), before + due);
                Check.due("the lines", Check.allLines(x), "q|".repeat(before) + drawn(5, due));
                x.undo();
                Check.due("lines() behind undo()", x.lines(), before);
            }
        }
    }

    private static void drawNumbers() {
        Check.says(51, "To draw a number, x, which is seed at first, becomes x * 1103515245 + 12345 (int arithmetic that wraps"
                + " around), and the number is (x >>> 16) & 32767.");
        int[] seeds = {0, 1, -1, 2, 32767, 32768, 65535, 65536, Integer.MAX_VALUE, Integer.MAX_VALUE - 1,
            Integer.MIN_VALUE, Integer.MIN_VALUE + 1, 1103515245, -12345};
        for (int seed : seeds) {
            AutoIndenter x = new AutoIndenter();
            x.draw(seed, 12);
            Check.due("the lines of " + seed, Check.allLines(x), drawn(seed, 12));
        }
        AutoIndenter x = Check.withLines("q");
        x.draw(0, 1);
        Check.due("the first line of seed 0", Check.line(x, 1), firstLineOfSeed0());
    }

    /** Computed with long arithmetic that is cut afterwards, to hold the wrap-around by another way. */
    private static String firstLineOfSeed0() {
        long x = 0;
        StringBuilder line = new StringBuilder();
        int pieces = 0;
        for (int n = 0; n < 2 + pieces; n++) {
            x = (x * 1103515245L + 12345L) & 0xFFFFFFFFL;
            int number = (int) ((x / 65536) % 32768);
            if (n == 0) {
                line.append(" ".repeat(number % 12));
            } else if (n == 1) {
                pieces = 1 + number % 3;
            } else {
                line.append(n == 2 ? "" : " ").append(PIECES[number % 16]);
            }
        }
        return line.toString();
    }

    private static void drawnPieces() {
        Check.says(51, "For each line these numbers are drawn, in this order: the indentation is the first one % 12; the line"
                + " consists of 1 + (the second one % 3) pieces, with a space between each two; then one number for each"
                + " piece, which % 16 tells the piece");
        boolean[] indents = new boolean[12];
        boolean[] pieces = new boolean[16];
        boolean[] counts = new boolean[4];
        for (int seed = 0; seed < 60; seed++) {
            AutoIndenter x = new AutoIndenter();
            x.draw(seed, 12);
            String due = drawn(seed, 12);
            Check.due("the lines of " + seed, Check.allLines(x), due);
            for (String line : due.split("\\|")) {
                String[] parts = line.strip().split(" ");
                indents[line.indexOf(line.strip())] = true;
                counts[parts.length] = true;
                for (String part : parts) {
                    pieces[List.of(PIECES).indexOf(part)] = true;
                }
            }
        }
        for (int n = 0; n < 12; n++) {
            Check.due("there was the indentation " + n, indents[n] ? 1 : 0, 1);
        }
        for (int n = 0; n < 16; n++) {
            Check.due("there was the piece " + n, pieces[n] ? 1 : 0, 1);
        }
        for (int n = 1; n < 4; n++) {
            Check.due("there was a line of pieces " + n, counts[n] ? 1 : 0, 1);
        }
    }

    private static String drawn(int seed, int n) {
        StringBuilder text = new StringBuilder();
        int[] x = {seed};
        for (int j = 0; j < n; j++) {
            text.append(" ".repeat(number(x) % 12));
            int count = 1 + number(x) % 3;
            for (int p = 0; p < count; p++) {
                text.append(p == 0 ? "" : " ").append(PIECES[number(x) % 16]);
            }
            text.append('|');
        }
        return text.toString();
    }

    private static int number(int[] x) {
        x[0] = x[0] * 1103515245 + 12345;
        return (x[0] >>> 16) & 32767;
    }

    private static void drawnLinesAreNotPinned() {
        Check.says(51, "The lines are not pinned.");
        AutoIndenter x = Check.copies(20, "a");
        for (int i = 0; i < 20; i++) {
            x.pin(i);
        }
        for (int i = 19; i >= 8; i--) {
            x.removeLine(i);
        }
        Check.due("draw(3, 12)", x.draw(3, 12), 12);
        for (int i = 0; i < 20; i++) {
            Check.due("isPinned(" + i + ")", x.isPinned(i), i < 8 ? 1 : 0);
        }
    }

    private static void drawRefused() {
        Check.says(51, "BAD if n is out of range.");
        for (int n : new int[] {-1, 0, 13, 14, 20}) {
            Check.refused("draw(1, " + n + ")", AutoIndenter::new, x -> x.draw(1, n), BAD);
            Check.refused("draw(1, " + n + ")", Check::some, x -> x.draw(1, n), BAD);
            Check.refused("draw(1, " + n + ")", Check::full, x -> x.draw(1, n), BAD);
        }
    }

    private static long hash(int... values) {
        long h = 18310;
        for (int v : values) {
            h = 31 * h + v;
        }
        return h;
    }

    private static int[] join(int[]... parts) {
        return java.util.Arrays.stream(parts).flatMapToInt(java.util.Arrays::stream).toArray();
    }

    private static final int[] NO_RULES = new int[12];

    private static void digestOfNothing() {
        Check.says(52, "Computes a hash of the whole object. h is 18310 at first; then h becomes 31 * h + v", "Returns h.");
        int[] due = join(new int[] {0, 4, 0, 35}, NO_RULES, new int[] {0, 0, 0});
        Check.due("a new object", new AutoIndenter().digest(), hash(due));
        AutoIndenter x = new AutoIndenter();
        x.insertLine(0);
        x.undo();
        Check.due("a change that is undone", x.digest(), hash(due));
        Check.silent("digest()", Check::some, y -> y.digest());
        Check.silent("digest()", Check::full, y -> y.digest());
    }

    private static void digestOfLines() {
        Check.says(52, "lines(); for each line indentation(), length(), its bytes, isPinned() and wanted()");
        AutoIndenter x = Check.withLines("");
        int[] rest = join(new int[] {4, 0, 35}, NO_RULES);
        Check.due("a blank line", x.digest(), hash(join(new int[] {1, 0, 0, 0, -9}, rest, new int[] {1, 0, 0})));
        x = Check.withLines(" ".repeat(40) + "~".repeat(32));
        int[] bytes = new int[32];
        java.util.Arrays.fill(bytes, 126);
        Check.due("the largest line", x.digest(),
                hash(join(new int[] {1, 40, 32}, bytes, new int[] {0, 0}, rest, new int[] {1, 0, 72})));
        x.pin(0);
        Check.due("pinned", x.digest(),
                hash(join(new int[] {1, 40, 32}, bytes, new int[] {1, 0}, rest, new int[] {2, 0, 72})));
        x = Check.copies(20, "a");
        int[] lines = {20};
        for (int i = 0; i < 20; i++) {
            lines = join(lines, new int[] {0, 1, 97, 0, 0});
        }
        Check.due("20 lines", x.digest(), hash(join(lines, rest, new int[] {8, 0, 1})));
        x = Check.withLines("\"\"\"", "a");
        Check.due("a protected line", x.digest(), hash(join(new int[] {2, 0, 3, 34, 34, 34, 0, 0, 0, 1, 97, 0, -9}, rest,
                new int[] {2, 0, 1})));
    }

    private static void digestOfRules() {
        Check.says(52, "for each rule 0 to 11: 0 if there is no such rule; for a pair 1, its precedence, steps, mode, closing"
                + " mode, the bytes of its opening text, 32, and the bytes of its closing text; for a starter 2, and for a"
                + " joiner 3, its precedence, steps, and the bytes of its text");
        int[] eight = {97, 98, 99, 100, 101, 102, 103, 104};
        for (int r : new int[] {0, 5, 11}) {
            AutoIndenter x = new AutoIndenter();
            int[] before = join(new int[] {0, 4, 0, 35}, new int[r]);
            int[] behind = new int[11 - r];
            Check.starter(x, r, " abcdefgh ", 9, -4);
            Check.due("a starter", x.digest(),
                    hash(join(before, new int[] {2, 9, -4}, eight, behind, new int[] {1, 0, 10})));
            Check.joiner(x, r, "(", 0, 4);
            Check.due("a joiner", x.digest(), hash(join(before, new int[] {3, 0, 4, 40}, behind, new int[] {2, 0, 1})));
            Check.pair(x, r, "abcdefgh   abcdefgh", 9, 4, 1, 2);
            Check.due("a pair", x.digest(), hash(join(before, new int[] {1, 9, 4, 1, 2}, eight, new int[] {32}, eight,
                    behind, new int[] {3, 0, 19})));
            Check.pair(x, r, "()", 0, 0, 0, 0);
            Check.due("another pair", x.digest(), hash(join(before, new int[] {1, 0, 0, 0, 0, 40, 32, 41}, behind,
                    new int[] {4, 0, 2})));
            x.dropRule(r);
            Check.due("none any more", x.digest(), hash(join(before, new int[] {0}, behind, new int[] {5, 0, 2})));
        }
    }

    private static void digestOfTheRest() {
        Check.says(52, "the step, the base, the comment byte");
        AutoIndenter x = new AutoIndenter();
        x.setStep(8);
        x.setBase(20);
        x.setComment(0);
        Check.due("settings", x.digest(), hash(join(new int[] {0, 8, 20, 0}, NO_RULES, new int[] {3, 0, 0})));
        Check.says(52, "the number of remembered states; the number of images that there are; the number of bytes of the text"
                + " buffer");
        for (int n = 4; n <= 10; n++) {
            x.setStep(1);
            int[] last = {Math.min(n, 8), 0, 0};
            Check.due(n + " changes", x.digest(), hash(join(new int[] {0, 1, 20, 0}, NO_RULES, last)));
        }
        int[] before = join(new int[] {0, 1, 20, 0}, NO_RULES);
        x.keep(1);
        Check.due("one image", x.digest(), hash(join(before, new int[] {8, 1, 0})));
        x.keep(1);
        Check.due("one image, kept again", x.digest(), hash(join(before, new int[] {8, 1, 0})));
        x.keep(0);
        Check.due("two images", x.digest(), hash(join(before, new int[] {8, 2, 0})));
        x.back(0);
        Check.due("behind back()", x.digest(), hash(join(before, new int[] {0, 2, 0})));
        for (int n = 1; n <= 73; n++) {
            x.type(97);
            Check.due(n + " bytes", x.digest(), hash(join(before, new int[] {0, 2, Math.min(n, 72)})));
        }
    }

    private static void digestWrapsAround() {
        Check.says(52, "(long arithmetic that wraps around)");
        java.math.BigInteger h = java.math.BigInteger.valueOf(18310);
        int[] values = join(new int[] {1, 3, 32}, "z".repeat(32).chars().toArray(), new int[] {0, 0, 4, 0, 35}, NO_RULES,
                new int[] {1, 0, 35});
        for (int v : values) {
            h = h.multiply(java.math.BigInteger.valueOf(31)).add(java.math.BigInteger.valueOf(v));
        }
        Check.due("a hash far beyond a long", Check.withLines("   " + "z".repeat(32)).digest(), h.longValue());
    }

    /** The document allows an object 512 calls: the last of them answers as the first one does. */
    private static void as512Calls() {
        Check.says(48, "Returns to the latest remembered state");
        AutoIndenter x = new AutoIndenter();
        for (int n = 0; n < 127; n++) {
            Check.due("type", x.type(97), 1);
            Check.due("insertLine", x.insertLine(0), 1);
            Check.due("undo", x.undo(), 0);
            Check.due("clear", x.clear(), 1);
        }
        Check.due("type", x.type(97), 1);
        Check.due("insertLine", x.insertLine(0), 1);
        Check.due("undo", x.undo(), 0);
        Check.due("call 512", x.undo(), STATE);
    }
}
