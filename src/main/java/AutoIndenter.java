/**
 * An auto-indenter for program text. ../shared/DOC.md says what each public method promises.
 *
 * <p>All rows are made in the constructors and used again, so that no call makes an object.
 */
public final class AutoIndenter {
    public static final int BAD = -1, STATE = -2, FULL = -3, NONE = -9;

    private static final int MAX_LINES = 20;
    private static final int MAX_CONTENT = 32;
    private static final int MAX_INDENTATION = 40;
    private static final int MAX_BUFFER = 72;
    private static final int MAX_TOKENS = MAX_LINES * MAX_CONTENT;
    private static final int MAX_RULES = 12;
    private static final int MAX_TEXT = 8;
    private static final int MAX_PRECEDENCE = 9;
    private static final int MAX_STEPS = 4;
    private static final int MAX_BLOCKS = 12;
    private static final int MAX_STATES = 8;
    private static final int MAX_IMAGES = 2;
    private static final int MAX_STEP = 8;
    private static final int MAX_BASE = 20;
    private static final int MAX_DRAWN = 12;

    private static final int FIRST_BYTE = 32;
    private static final int LAST_BYTE = 126;
    private static final int SPACE = 32;
    private static final int QUOTE = 34;
    private static final int BACKSLASH = 92;

    /** No such token, line or rule. */
    private static final int NO = -1;
    /** A text that is refused at a position is answered by this minus the position. */
    private static final int REFUSED = -10;

    /** A step and a base are told in one number: this times the step plus the base. */
    private static final int SETTING = 100;

    /** The kinds of tokens. */
    private static final int WORD = 0;
    private static final int SIGN = 1;
    private static final int QUOTED = 2;

    /** The sorts of rules, numbered as digest() wants them; 0 stands for no rule. */
    private static final int PAIR = 1;
    private static final int STARTER = 2;
    private static final int JOINER = 3;

    /** The answers of reason(). */
    private static final int BY_BASE = 0;
    private static final int BY_STEPS = 1;
    private static final int BY_COLUMN = 2;
    private static final int BY_CLOSED = 3;
    private static final int BY_STARTER = 4;
    private static final int BY_JOINER = 5;

    private final State now = new State();
    private final Buffer buffer = new Buffer();
    private final RuleTexts ruleTexts = new RuleTexts();
    private final History history = new History();
    private final State[] images = {new State(), new State()};
    private final Row imageThere = new Row(MAX_IMAGES);

    private final Tokens division = new Tokens();
    private final Blocks blocks = new Blocks();
    private final Plan plan = new Plan();
    private final Vocabulary words = new Vocabulary();
    /** Indentations that are tried out while those of the lines stay. */
    private final Row trial = new Row(MAX_LINES);
    /** Whether division, blocks and plan are those of the present state. */
    private boolean studied = false;

    public AutoIndenter() {
    }

    // ---- the text buffer

    public int type(int c) {
        if (!within(c, FIRST_BYTE, LAST_BYTE)) {
            return BAD;
        }
        if (buffer.count >= MAX_BUFFER) {
            return FULL;
        }
        buffer.add(c);
        return buffer.count;
    }

    public int clear() {
        int before = buffer.count;
        buffer.count = 0;
        return before;
    }

    // ---- lines

    public int insertLine(int i) {
        if (!within(i, 0, now.text.count)) {
            return BAD;
        }
        if (now.text.count >= MAX_LINES || !buffer.isLine()) {
            return FULL;
        }
        beginChange();
        now.text.openGap(i);
        buffer.writeLine(now.text, i);
        return now.text.count;
    }

    public int replaceLine(int i) {
        if (!now.text.has(i)) {
            return BAD;
        }
        if (!buffer.isLine()) {
            return FULL;
        }
        int before = now.text.indents.get(i);
        beginChange();
        buffer.writeLine(now.text, i);
        return before;
    }

    public int removeLine(int i) {
        if (!now.text.has(i)) {
            return BAD;
        }
        beginChange();
        now.text.closeGap(i);
        return now.text.count;
    }

    public int splitLine(int i, int k) {
        if (!now.text.has(i) || !within(k, 1, now.text.sizes.get(i) - 1)) {
            return BAD;
        }
        if (now.text.count >= MAX_LINES) {
            return FULL;
        }
        beginChange();
        now.text.split(i, k);
        study();
        int indent = plan.column(i + 1, now.text.indents, now.step, now.base);
        now.text.indents.set(i + 1, indent == NONE ? 0 : indent);
        return now.text.indents.get(i + 1);
    }

    public int joinLines(int i) {
        if (!now.text.has(i) || !now.text.has(i + 1)) {
            return BAD;
        }
        if (now.text.joinedSize(i) > MAX_CONTENT) {
            return FULL;
        }
        beginChange();
        now.text.join(i);
        return now.text.sizes.get(i);
    }

    public int shift(int from, int to, int d) {
        if (!now.text.hasRange(from, to) || !within(d, -MAX_INDENTATION, MAX_INDENTATION)) {
            return BAD;
        }
        if (!now.text.canMove(from, to, d)) {
            return STATE;
        }
        beginChange();
        return now.text.move(from, to, d);
    }

    public int pin(int i) {
        if (!now.text.has(i)) {
            return BAD;
        }
        beginChange();
        now.text.pins.set(i, 1 - now.text.pins.get(i));
        return now.text.pins.get(i);
    }

    public int reindent(int from, int to) {
        if (!now.text.hasRange(from, to)) {
            return BAD;
        }
        beginChange();
        study();
        int changed = 0;
        for (int i = from; i < to; i++) {
            if (indentAnew(i, now.text.indents, now.step, now.base)) {
                changed++;
            }
        }
        return changed;
    }

    public int lines() {
        return now.text.count;
    }

    public int indentation(int i) {
        return now.text.has(i) ? now.text.indents.get(i) : BAD;
    }

    public int length(int i) {
        return now.text.has(i) ? now.text.sizes.get(i) : BAD;
    }

    public int byteAt(int i, int k) {
        if (!now.text.has(i) || k < 0) {
            return BAD;
        }
        return k < now.text.sizes.get(i) ? now.text.byteOf(i, k) : NONE;
    }

    public int isProtected(int i) {
        if (!now.text.has(i)) {
            return BAD;
        }
        study();
        return division.guards.get(i);
    }

    public int isPinned(int i) {
        return now.text.has(i) ? now.text.pins.get(i) : BAD;
    }

    // ---- settings and rules

    public int setStep(int v) {
        if (!within(v, 1, MAX_STEP)) {
            return BAD;
        }
        int before = now.step;
        beginChange();
        now.step = v;
        return before;
    }

    public int setBase(int v) {
        if (!within(v, 0, MAX_BASE)) {
            return BAD;
        }
        int before = now.base;
        beginChange();
        now.base = v;
        return before;
    }

    public int setComment(int c) {
        if (c != 0 && !canBeginComment(c)) {
            return BAD;
        }
        int before = now.comment;
        beginChange();
        now.comment = c;
        return before;
    }

    public int pair(int r, int precedence, int steps, int aligned, int closing) {
        if (!isRuleNumber(r) || !within(precedence, 0, MAX_PRECEDENCE)
                || !within(steps, 0, MAX_STEPS) || !within(aligned, 0, 1) || !within(closing, 0, 2)) {
            return BAD;
        }
        int refusal = ruleTexts.find(buffer, 2);
        if (refusal != 0) {
            return refusal;
        }
        beginChange();
        int before = makeRule(r, PAIR, precedence, steps);
        now.rules.modes.set(r, aligned);
        now.rules.closings.set(r, closing);
        return before;
    }

    public int starter(int r, int precedence, int steps) {
        int refusal = refusalOfOneText(r, precedence, steps);
        if (refusal != 0) {
            return refusal;
        }
        beginChange();
        return makeRule(r, STARTER, precedence, steps);
    }

    public int joiner(int r, int precedence, int steps) {
        int refusal = refusalOfOneText(r, precedence, steps);
        if (refusal != 0) {
            return refusal;
        }
        beginChange();
        return makeRule(r, JOINER, precedence, steps);
    }

    public int dropRule(int r) {
        if (!isRuleNumber(r) || !now.rules.has(r)) {
            return BAD;
        }
        beginChange();
        now.rules.sorts.set(r, 0);
        return now.rules.size();
    }

    // ---- wanted indentations

    public int wanted(int i) {
        if (!now.text.has(i)) {
            return BAD;
        }
        study();
        return plan.column(i, now.text.indents, now.step, now.base);
    }

    public int reason(int i) {
        if (!now.text.has(i)) {
            return BAD;
        }
        study();
        return plan.reasons.get(i);
    }

    public int decidingRule(int i) {
        if (!now.text.has(i)) {
            return BAD;
        }
        study();
        int decider = plan.deciders.get(i);
        return decider == NO ? NONE : decider;
    }

    public int wouldChange() {
        study();
        return linesChangedWith(now.step, now.base);
    }

    public int changesWith(int step, int base) {
        if (!within(step, 1, MAX_STEP) || !within(base, 0, MAX_BASE)) {
            return BAD;
        }
        study();
        return Integer.bitCount(linesChangedWith(step, base));
    }

    public int fewestChanges() {
        study();
        int best = findBestSetting();
        return Integer.bitCount(linesChangedWith(best / SETTING, best % SETTING));
    }

    public int bestStep() {
        study();
        return findBestSetting() / SETTING;
    }

    public int bestBase() {
        study();
        return findBestSetting() % SETTING;
    }

    // ---- tokens and blocks

    public int tokens(int i) {
        if (!now.text.has(i)) {
            return BAD;
        }
        study();
        return division.countIn(i);
    }

    public int tokenAt(int i, int k) {
        study();
        int t = findToken(i, k);
        return t == NO ? BAD : division.starts.get(t);
    }

    public int tokenLength(int i, int k) {
        study();
        int t = findToken(i, k);
        return t == NO ? BAD : division.sizes.get(t);
    }

    public int tokenKind(int i, int k) {
        study();
        int t = findToken(i, k);
        return t == NO ? BAD : division.kinds.get(t);
    }

    public int openedBy(int i, int k) {
        study();
        int t = findToken(i, k);
        return t == NO ? BAD : placeOf(blocks.openers.get(t));
    }

    public int closedBy(int i, int k) {
        study();
        int t = findToken(i, k);
        return t == NO ? BAD : placeOf(blocks.closers.get(t));
    }

    public int depth(int i) {
        if (!within(i, 0, now.text.count)) {
            return BAD;
        }
        study();
        return blocks.depths.get(i);
    }

    public int blockRule(int i, int k) {
        study();
        int opener = findBlock(i, k);
        return opener == NO ? BAD : blocks.pairs.get(opener);
    }

    public int blockOpening(int i, int k) {
        study();
        int opener = findBlock(i, k);
        if (opener == NO) {
            return BAD;
        }
        int line = division.homes.get(opener);
        return 100 * line + now.text.indents.get(line) + division.starts.get(opener);
    }

    public int contentColumn(int i, int k) {
        study();
        int opener = findBlock(i, k);
        if (opener == NO) {
            return BAD;
        }
        int indent = now.text.indents.get(division.homes.get(opener));
        return columnFrom(indent, blocks.offsets.get(opener), blocks.steps.get(opener), now.step);
    }

    public int strays() {
        study();
        return blocks.strayCount;
    }

    public int lost() {
        study();
        return blocks.lostCount;
    }

    public int vocabulary() {
        study();
        words.count(now.text, division);
        return words.size;
    }

    public int commonestCount() {
        study();
        words.count(now.text, division);
        int commonest = words.commonest();
        return commonest == NO ? NONE : words.uses.get(commonest);
    }

    public int commonestByte(int k) {
        if (k < 0) {
            return BAD;
        }
        study();
        words.count(now.text, division);
        int commonest = words.commonest();
        if (commonest == NO) {
            return NONE;
        }
        int t = words.samples.get(commonest);
        if (k >= division.sizes.get(t)) {
            return NONE;
        }
        return now.text.byteOf(division.homes.get(t), division.starts.get(t) + k);
    }

    // ---- history

    public int undo() {
        if (history.count == 0) {
            return STATE;
        }
        history.takeLatest(now);
        studied = false;
        return history.count;
    }

    public int keep(int k) {
        State image = imageAt(k);
        if (image == null) {
            return BAD;
        }
        int before = imageThere.get(k);
        image.copy(now);
        imageThere.set(k, 1);
        return before;
    }

    public int back(int k) {
        State image = imageAt(k);
        if (image == null || imageThere.get(k) == 0) {
            return BAD;
        }
        now.copy(image);
        history.count = 0;
        studied = false;
        return now.text.count;
    }

    public int draw(int seed, int n) {
        if (!within(n, 1, MAX_DRAWN)) {
            return BAD;
        }
        beginChange();
        int added = Math.min(n, MAX_LINES - now.text.count);
        int x = seed;
        for (int j = 0; j < added; j++) {
            x = drawLine(x);
        }
        return added;
    }

    public long digest() {
        study();
        long h = mix(18310L, now.text.count);
        for (int i = 0; i < now.text.count; i++) {
            h = mixLine(h, i);
        }
        h = mix(mix(mix(h, now.step), now.base), now.comment);
        for (int r = 0; r < MAX_RULES; r++) {
            h = now.rules.mixRule(h, r);
        }
        h = mix(h, history.count);
        h = mix(h, imageThere.get(0) + imageThere.get(1));
        return mix(h, buffer.count);
    }

    // ---- what the public methods share

    private static boolean within(int v, int low, int high) {
        return v >= low && v <= high;
    }

    private static boolean isWordByte(int b) {
        return within(b, 'a', 'z') || within(b, 'A', 'Z') || within(b, '0', '9') || b == '_';
    }

    private static boolean canBeginComment(int c) {
        return within(c, FIRST_BYTE + 1, LAST_BYTE) && c != QUOTE && !isWordByte(c);
    }

    private static boolean isRuleNumber(int r) {
        return within(r, 0, MAX_RULES - 1);
    }

    /** The room of an image, whether it is filled or not, or null if there is no such image. */
    private State imageAt(int k) {
        return k >= 0 && k < images.length ? images[k] : null;
    }

    /** Only the column of a token may lie beyond the greatest indentation. */
    private static int columnFrom(int indent, int offset, int steps, int step) {
        return steps > 0 ? Math.min(MAX_INDENTATION, indent + steps * step) : indent + offset;
    }

    private static long mix(long h, int v) {
        return 31L * h + v;
    }

    /** To be called when the change is sure, and before the state is touched. */
    private void beginChange() {
        history.remember(now);
        studied = false;
    }

    private void study() {
        if (!studied) {
            division.divide(now.text, now.comment);
            blocks.match(now, division);
            plan.make(now, division, blocks);
            studied = true;
        }
    }

    private int refusalOfOneText(int r, int precedence, int steps) {
        if (!isRuleNumber(r) || !within(precedence, 0, MAX_PRECEDENCE)
                || !within(steps, -MAX_STEPS, MAX_STEPS)) {
            return BAD;
        }
        return ruleTexts.find(buffer, 1);
    }

    /** Returns 1 if the rule was there before, otherwise 0. */
    private int makeRule(int r, int sort, int precedence, int steps) {
        int before = now.rules.has(r) ? 1 : 0;
        now.rules.put(r, sort, precedence, steps);
        ruleTexts.write(buffer, now.rules, r);
        return before;
    }

    /** Works on any row of indentations, so that a trial leaves the lines as they are. */
    private boolean indentAnew(int i, Row indents, int step, int base) {
        int column = plan.column(i, indents, step, base);
        if (column == NONE || now.text.pins.get(i) != 0 || indents.get(i) == column) {
            return false;
        }
        indents.set(i, column);
        return true;
    }

    private int linesChangedWith(int step, int base) {
        trial.copy(now.text.indents);
        int changed = 0;
        for (int i = 0; i < now.text.count; i++) {
            if (indentAnew(i, trial, step, base)) {
                changed |= 1 << i;
            }
        }
        return changed;
    }

    /** SETTING times the best step plus the best base; the first one found is the smallest. */
    private int findBestSetting() {
        int best = 0;
        int fewest = MAX_LINES + 1;
        for (int step = 1; step <= MAX_STEP; step++) {
            for (int base = 0; base <= MAX_BASE; base++) {
                int changes = Integer.bitCount(linesChangedWith(step, base));
                if (changes < fewest) {
                    fewest = changes;
                    best = step * SETTING + base;
                }
            }
        }
        return best;
    }

    private int findToken(int i, int k) {
        boolean there = now.text.has(i) && k >= 0 && k < division.countIn(i);
        return there ? division.firsts.get(i) + k : NO;
    }

    private int findBlock(int i, int k) {
        return within(i, 0, now.text.count) ? blocks.openBefore(i, k) : NO;
    }

    private int placeOf(int t) {
        if (t == NO) {
            return NONE;
        }
        int line = division.homes.get(t);
        return 100 * line + t - division.firsts.get(line);
    }

    private long mixLine(long h, int i) {
        int size = now.text.sizes.get(i);
        long mixed = mix(mix(h, now.text.indents.get(i)), size);
        for (int k = 0; k < size; k++) {
            mixed = mix(mixed, now.text.byteOf(i, k));
        }
        mixed = mix(mixed, now.text.pins.get(i));
        return mix(mixed, plan.column(i, now.text.indents, now.step, now.base));
    }

    private int drawLine(int seed) {
        int i = now.text.count;
        now.text.openGap(i);
        int x = nextSeed(seed);
        now.text.indents.set(i, drawnNumber(x) % 12);
        x = nextSeed(x);
        int pieces = 1 + drawnNumber(x) % 3;
        for (int p = 0; p < pieces; p++) {
            if (p > 0) {
                now.text.append(i, SPACE);
            }
            x = nextSeed(x);
            String piece = pieceText(drawnNumber(x) % 16);
            for (int k = 0; k < piece.length(); k++) {
                now.text.append(i, piece.charAt(k));
            }
        }
        return x;
    }

    private static int nextSeed(int x) {
        return x * 1103515245 + 12345;
    }

    private static int drawnNumber(int x) {
        return (x >>> 16) & 32767;
    }

    private static String pieceText(int number) {
        switch (number) {
            case 0: return "a(";
            case 1: return ")";
            case 2: return "{";
            case 3: return "}";
            case 4: return "[x,";
            case 5: return "]";
            case 6: return "begin";
            case 7: return "end";
            case 8: return "case";
            case 9: return "\"s\"";
            case 10: return "#c";
            case 11: return "y+";
            case 12: return "\"\"\"";
            case 13: return "z";
            case 14: return "f(b,";
            default: return ";";
        }
    }

    /** Numbers that answer every index: outside of them there is nothing to read or to write. */
    private static final class Row {
        private final int[] cells;

        Row(int size) {
            cells = new int[Math.max(0, size)];
        }

        int get(int i) {
            return i >= 0 && i < cells.length ? cells[i] : NO;
        }

        void set(int i, int v) {
            if (i >= 0 && i < cells.length) {
                cells[i] = v;
            }
        }

        void copy(Row other) {
            System.arraycopy(other.cells, 0, cells, 0, Math.min(cells.length, other.cells.length));
        }
    }

    /** What a change records and what an image holds. */
    private static final class State {
        final Lines text = new Lines();
        final Rules rules = new Rules();
        int step = 4;
        int base = 0;
        int comment = 35;

        void copy(State other) {
            text.copy(other.text);
            rules.copy(other.rules);
            step = other.step;
            base = other.base;
            comment = other.comment;
        }
    }

    /** The lines with their indentations and pins. */
    private static final class Lines {
        int count = 0;
        final Row indents = new Row(MAX_LINES);
        final Row sizes = new Row(MAX_LINES);
        final Row pins = new Row(MAX_LINES);
        private final Row bytes = new Row(MAX_LINES * MAX_CONTENT);

        boolean has(int i) {
            return i >= 0 && i < count;
        }

        boolean hasRange(int from, int to) {
            return from >= 0 && from <= to && to <= count;
        }

        /** Answers 0, which is no byte of a line, where the content has none. */
        int byteOf(int i, int k) {
            return k >= 0 && k < sizes.get(i) ? bytes.get(i * MAX_CONTENT + k) : 0;
        }

        void append(int i, int b) {
            int size = sizes.get(i);
            if (size >= 0 && size < MAX_CONTENT) {
                bytes.set(i * MAX_CONTENT + size, b);
                sizes.set(i, size + 1);
            }
        }

        private void appendFrom(int source, int from, int i) {
            int end = sizes.get(source);
            for (int k = from; k < end; k++) {
                append(i, byteOf(source, k));
            }
        }

        /** The new line i is blank and not pinned. */
        void openGap(int i) {
            if (count < MAX_LINES) {
                for (int j = count; j > i; j--) {
                    copyLine(j - 1, j);
                }
                count++;
                indents.set(i, 0);
                sizes.set(i, 0);
                pins.set(i, 0);
            }
        }

        void closeGap(int i) {
            if (has(i)) {
                for (int j = i; j < count - 1; j++) {
                    copyLine(j + 1, j);
                }
                count--;
            }
        }

        private void copyLine(int from, int to) {
            indents.set(to, indents.get(from));
            pins.set(to, pins.get(from));
            int size = sizes.get(from);
            sizes.set(to, size);
            for (int k = 0; k < size; k++) {
                bytes.set(to * MAX_CONTENT + k, bytes.get(from * MAX_CONTENT + k));
            }
        }

        void split(int i, int k) {
            openGap(i + 1);
            int from = k;
            while (from < MAX_CONTENT && byteOf(i, from) == SPACE) {
                from++;
            }
            appendFrom(i, from, i + 1);
            int end = k;
            while (end > 0 && byteOf(i, end - 1) == SPACE) {
                end--;
            }
            sizes.set(i, end);
        }

        int joinedSize(int i) {
            int first = sizes.get(i);
            int second = sizes.get(i + 1);
            return first + second + (first > 0 && second > 0 ? 1 : 0);
        }

        void join(int i) {
            if (sizes.get(i) == 0) {
                indents.set(i, indents.get(i + 1));
            } else if (sizes.get(i + 1) > 0) {
                append(i, SPACE);
            }
            appendFrom(i + 1, 0, i);
            closeGap(i + 1);
        }

        boolean canMove(int from, int to, int d) {
            for (int i = from; i < to; i++) {
                if (sizes.get(i) > 0 && !within(indents.get(i) + d, 0, MAX_INDENTATION)) {
                    return false;
                }
            }
            return true;
        }

        int move(int from, int to, int d) {
            int moved = 0;
            for (int i = from; i < to; i++) {
                if (sizes.get(i) > 0) {
                    indents.set(i, indents.get(i) + d);
                    moved++;
                }
            }
            return moved;
        }

        void copy(Lines other) {
            count = other.count;
            indents.copy(other.indents);
            sizes.copy(other.sizes);
            pins.copy(other.pins);
            bytes.copy(other.bytes);
        }
    }

    /** The rules; each has room for two texts, of which only a pair uses the second one. */
    private static final class Rules {
        final Row sorts = new Row(MAX_RULES);
        final Row precedences = new Row(MAX_RULES);
        final Row steps = new Row(MAX_RULES);
        final Row modes = new Row(MAX_RULES);
        final Row closings = new Row(MAX_RULES);
        private final Row textSizes = new Row(2 * MAX_RULES);
        private final Row textBytes = new Row(2 * MAX_RULES * MAX_TEXT);

        boolean has(int r) {
            return sorts.get(r) > 0;
        }

        int size() {
            int there = 0;
            for (int r = 0; r < MAX_RULES; r++) {
                there += has(r) ? 1 : 0;
            }
            return there;
        }

        void put(int r, int sort, int precedence, int ownSteps) {
            sorts.set(r, sort);
            precedences.set(r, precedence);
            steps.set(r, ownSteps);
            textSizes.set(2 * r, 0);
            textSizes.set(2 * r + 1, 0);
        }

        void appendText(int r, int which, int b) {
            int text = 2 * r + which;
            int size = textSizes.get(text);
            if (size >= 0 && size < MAX_TEXT) {
                textBytes.set(text * MAX_TEXT + size, b);
                textSizes.set(text, size + 1);
            }
        }

        /** Whether the text of this rule is what stands in a line at start. */
        boolean hasText(int r, int which, Lines lines, int line, int start, int size) {
            int text = 2 * r + which;
            if (textSizes.get(text) != size) {
                return false;
            }
            for (int k = 0; k < size; k++) {
                if (textBytes.get(text * MAX_TEXT + k) != lines.byteOf(line, start + k)) {
                    return false;
                }
            }
            return true;
        }

        /** The rule of this sort that is used of those in the set. */
        int best(int sort, int set) {
            int best = NO;
            int greatest = NO;
            for (int r = 0; r < MAX_RULES; r++) {
                boolean applies = (set >> r & 1) != 0 && sorts.get(r) == sort;
                if (applies && precedences.get(r) > greatest) {
                    best = r;
                    greatest = precedences.get(r);
                }
            }
            return best;
        }

        boolean beats(int r, int other) {
            return r != NO && (other == NO || precedences.get(r) > precedences.get(other));
        }

        long mixRule(long h, int r) {
            int sort = sorts.get(r);
            long mixed = mix(h, sort);
            if (!has(r)) {
                return mixed;
            }
            mixed = mix(mix(mixed, precedences.get(r)), steps.get(r));
            if (sort != PAIR) {
                return mixText(mixed, 2 * r);
            }
            mixed = mix(mix(mixed, modes.get(r)), closings.get(r));
            return mixText(mix(mixText(mixed, 2 * r), SPACE), 2 * r + 1);
        }

        private long mixText(long h, int text) {
            long mixed = h;
            for (int k = 0; k < textSizes.get(text); k++) {
                mixed = mix(mixed, textBytes.get(text * MAX_TEXT + k));
            }
            return mixed;
        }

        void copy(Rules other) {
            sorts.copy(other.sorts);
            precedences.copy(other.precedences);
            steps.copy(other.steps);
            modes.copy(other.modes);
            closings.copy(other.closings);
            textSizes.copy(other.textSizes);
            textBytes.copy(other.textBytes);
        }
    }

    /** The text buffer. */
    private static final class Buffer {
        int count = 0;
        private final Row bytes = new Row(MAX_BUFFER);

        void add(int b) {
            if (count < MAX_BUFFER) {
                bytes.set(count, b);
                count++;
            }
        }

        /** Answers 0, which is no byte of a text, behind the end. */
        int byteOf(int k) {
            return k >= 0 && k < count ? bytes.get(k) : 0;
        }

        private int contentStart() {
            int start = 0;
            while (start < count && bytes.get(start) == SPACE) {
                start++;
            }
            return start;
        }

        private int contentEnd() {
            int end = count;
            while (end > 0 && bytes.get(end - 1) == SPACE) {
                end--;
            }
            return end;
        }

        /** Spaces alone are a blank line, however many they are. */
        boolean isLine() {
            int start = contentStart();
            return start == count
                    || start <= MAX_INDENTATION && contentEnd() - start <= MAX_CONTENT;
        }

        void writeLine(Lines lines, int i) {
            int start = contentStart();
            lines.indents.set(i, start == count ? 0 : start);
            lines.sizes.set(i, 0);
            int end = contentEnd();
            for (int k = start; k < end; k++) {
                lines.append(i, bytes.get(k));
            }
        }
    }

    /** Where the texts of a rule stand in the text buffer. */
    private static final class RuleTexts {
        private final Row starts = new Row(2);
        private final Row ends = new Row(2);
        private int found = 0;

        /** Returns 0 if there are as many texts as are due, and otherwise what the call has to answer. */
        int find(Buffer buffer, int due) {
            found = 0;
            int end = 0;
            for (int at = 0; at < buffer.count; at = Math.max(at + 1, end)) {
                int b = buffer.byteOf(at);
                if (b == SPACE) {
                    continue;
                }
                if (b == QUOTE || found >= due) {
                    return REFUSED - at;
                }
                end = textEnd(buffer, at);
                if (end - at > MAX_TEXT) {
                    return REFUSED - at - MAX_TEXT;
                }
                starts.set(found, at);
                ends.set(found, end);
                found++;
            }
            return found < due ? REFUSED - buffer.count : 0;
        }

        private static int textEnd(Buffer buffer, int start) {
            int end = start;
            while (end < buffer.count && isWordByte(buffer.byteOf(end))) {
                end++;
            }
            return Math.max(end, start + 1);
        }

        void write(Buffer buffer, Rules rules, int r) {
            for (int which = 0; which < found; which++) {
                for (int k = starts.get(which); k < ends.get(which); k++) {
                    rules.appendText(r, which, buffer.byteOf(k));
                }
            }
        }
    }

    /** The tokens of all lines in their order, and the lines that literals protect. */
    private static final class Tokens {
        int count = 0;
        /** The line of each token. */
        final Row homes = new Row(MAX_TOKENS);
        final Row starts = new Row(MAX_TOKENS);
        final Row sizes = new Row(MAX_TOKENS);
        final Row kinds = new Row(MAX_TOKENS);
        /** The first token of each line, and behind the last line the number of tokens. */
        final Row firsts = new Row(MAX_LINES + 1);
        final Row guards = new Row(MAX_LINES);
        /** The content of the line that is divided, with 0 behind its end, so that one may look ahead. */
        private final Row content = new Row(MAX_CONTENT);
        private int lineSize = 0;
        private boolean inLiteral = false;

        void divide(Lines lines, int comment) {
            count = 0;
            inLiteral = false;
            for (int i = 0; i < lines.count; i++) {
                firsts.set(i, count);
                load(lines, i);
                divideLine(i, comment);
            }
            firsts.set(lines.count, count);
        }

        int countIn(int i) {
            return firsts.get(i + 1) - firsts.get(i);
        }

        private void load(Lines lines, int i) {
            lineSize = lines.sizes.get(i);
            for (int k = 0; k < MAX_CONTENT; k++) {
                content.set(k, lines.byteOf(i, k));
            }
        }

        private void divideLine(int i, int comment) {
            guards.set(i, inLiteral && lineSize > 0 ? 1 : 0);
            int end = inLiteral ? literalEnd(0) : 0;
            for (int at = end; at < lineSize; at = Math.max(at + 1, end)) {
                int b = content.get(at);
                if (b == comment) {
                    return;
                }
                if (b == QUOTE) {
                    end = threeQuotesAt(at) ? literalEnd(at + 3) : stringEnd(at + 1);
                    add(i, at, end, QUOTED);
                } else if (isWordByte(b)) {
                    end = wordEnd(at);
                    add(i, at, end, WORD);
                } else if (b != SPACE) {
                    add(i, at, at + 1, SIGN);
                }
            }
        }

        private void add(int line, int start, int end, int kind) {
            if (count < MAX_TOKENS) {
                homes.set(count, line);
                starts.set(count, start);
                sizes.set(count, end - start);
                kinds.set(count, kind);
                count++;
            }
        }

        private int wordEnd(int start) {
            int end = start;
            while (end < lineSize && isWordByte(content.get(end))) {
                end++;
            }
            return end;
        }

        private boolean threeQuotesAt(int k) {
            return content.get(k) == QUOTE && content.get(k + 1) == QUOTE && content.get(k + 2) == QUOTE;
        }

        /** The end of the literal in this line; notes whether it goes on in the next one. */
        private int literalEnd(int from) {
            for (int k = from; k < lineSize; k++) {
                if (threeQuotesAt(k)) {
                    inLiteral = false;
                    return k + 3;
                }
            }
            inLiteral = true;
            return lineSize;
        }

        private int stringEnd(int from) {
            for (int k = from; k < lineSize; k++) {
                if (content.get(k) == QUOTE) {
                    return k + 1;
                }
                if (content.get(k) == BACKSLASH) {
                    k++;
                }
            }
            return lineSize;
        }
    }

    /** Which tokens open and close blocks. A block goes by the number of its opening token. */
    private static final class Blocks {
        /** The rules whose text, or opening text, a token is, as a set. */
        final Row rulesOf = new Row(MAX_TOKENS);
        /** The pairs whose closing text a token is, as a set. */
        private final Row endsOf = new Row(MAX_TOKENS);
        /** The pair with which a token opens a block, or NO. */
        final Row pairs = new Row(MAX_TOKENS);
        final Row openers = new Row(MAX_TOKENS);
        final Row closers = new Row(MAX_TOKENS);
        /** The index in the stack of the block that a token opens. */
        final Row levels = new Row(MAX_TOKENS);
        /** The content column of a block: an offset in its line, or steps if there are any. */
        final Row offsets = new Row(MAX_TOKENS);
        final Row steps = new Row(MAX_TOKENS);
        /** The stacks before each line and at the end. */
        final Row depths = new Row(MAX_LINES + 1);
        private final Row stacks = new Row((MAX_LINES + 1) * MAX_BLOCKS);
        private final Row stack = new Row(MAX_BLOCKS);
        private int height = 0;
        int strayCount = 0;
        int lostCount = 0;

        void match(State state, Tokens tokens) {
            height = 0;
            strayCount = 0;
            lostCount = 0;
            for (int i = 0; i < state.text.count; i++) {
                saveStack(i);
                for (int t = tokens.firsts.get(i); t < tokens.firsts.get(i + 1); t++) {
                    findRules(t, state, tokens);
                    close(t, state.rules);
                    open(t, state.rules, tokens);
                }
            }
            saveStack(state.text.count);
        }

        /** The block at this index of the stack before line i, or NO. */
        int openBefore(int i, int k) {
            return k >= 0 && k < depths.get(i) ? stacks.get(i * MAX_BLOCKS + k) : NO;
        }

        private void saveStack(int i) {
            depths.set(i, height);
            for (int k = 0; k < height; k++) {
                stacks.set(i * MAX_BLOCKS + k, stack.get(k));
            }
        }

        private void findRules(int t, State state, Tokens tokens) {
            int line = tokens.homes.get(t);
            int start = tokens.starts.get(t);
            int size = tokens.sizes.get(t);
            boolean quoted = tokens.kinds.get(t) == QUOTED;
            int own = 0;
            int ending = 0;
            for (int r = 0; r < MAX_RULES; r++) {
                if (quoted || !state.rules.has(r)) {
                    continue;
                }
                if (state.rules.hasText(r, 0, state.text, line, start, size)) {
                    own |= 1 << r;
                }
                if (state.rules.hasText(r, 1, state.text, line, start, size)) {
                    ending |= 1 << r;
                }
            }
            rulesOf.set(t, own);
            endsOf.set(t, ending);
        }

        private void close(int t, Rules rules) {
            openers.set(t, NO);
            if (endsOf.get(t) == 0) {
                return;
            }
            int level = levelThatCloses(endsOf.get(t), rules);
            if (level == NO) {
                strayCount++;
                return;
            }
            openers.set(t, stack.get(level));
            closers.set(stack.get(level), t);
            lostCount += height - 1 - level;
            height = level;
        }

        /** Only the topmost block with a pair in the set is considered, and a stronger one above it holds it. */
        private int levelThatCloses(int ending, Rules rules) {
            int strongest = NO;
            for (int level = height - 1; level >= 0; level--) {
                int pair = pairs.get(stack.get(level));
                if ((ending >> pair & 1) != 0) {
                    return rules.precedences.get(pair) > strongest ? level : NO;
                }
                strongest = Math.max(strongest, rules.precedences.get(pair));
            }
            return NO;
        }

        private void open(int t, Rules rules, Tokens tokens) {
            int pair = height < MAX_BLOCKS ? rules.best(PAIR, rulesOf.get(t)) : NO;
            pairs.set(t, pair);
            closers.set(t, NO);
            if (pair == NO) {
                return;
            }
            levels.set(t, height);
            stack.set(height, t);
            height++;
            boolean last = t + 1 >= tokens.firsts.get(tokens.homes.get(t) + 1);
            boolean aligned = rules.modes.get(pair) == 1 && !last;
            offsets.set(t, aligned ? tokens.starts.get(t + 1) : 0);
            steps.set(t, aligned ? 0 : rules.steps.get(pair));
        }

        /** The last of the leading closers among the tokens from first to end, or NO. */
        int lastLeadingCloser(int first, int end) {
            int last = NO;
            for (int t = first; t < end; t++) {
                if (openers.get(t) == NO) {
                    return last;
                }
                last = t;
                if (pairs.get(t) != NO) {
                    return last;
                }
            }
            return last;
        }
    }

    /**
     * What decides about each line. This follows from tokens and rules alone: an indentation, the
     * step and the base only enter the column, so one plan serves for all of them.
     */
    private static final class Plan {
        final Row reasons = new Row(MAX_LINES);
        final Row deciders = new Row(MAX_LINES);
        /** The line from whose indentation the column is counted, or NO for the base. */
        private final Row anchors = new Row(MAX_LINES);
        private final Row offsets = new Row(MAX_LINES);
        private final Row steps = new Row(MAX_LINES);
        /** The steps of a starter or joiner, which come on top of the ground. */
        private final Row extras = new Row(MAX_LINES);

        void make(State state, Tokens tokens, Blocks blocks) {
            for (int i = 0; i < state.text.count; i++) {
                if (state.text.sizes.get(i) == 0 || tokens.guards.get(i) != 0) {
                    reasons.set(i, NONE);
                    deciders.set(i, NO);
                } else {
                    decide(i, state.rules, tokens, blocks);
                }
            }
        }

        /** The wanted indentation of a line, or NONE. */
        int column(int i, Row indents, int step, int base) {
            if (reasons.get(i) == NONE) {
                return NONE;
            }
            int anchor = anchors.get(i);
            int ground = anchor == NO
                    ? base
                    : columnFrom(indents.get(anchor), offsets.get(i), steps.get(i), step);
            return Math.max(0, Math.min(MAX_INDENTATION, ground + extras.get(i) * step));
        }

        private void decide(int i, Rules rules, Tokens tokens, Blocks blocks) {
            int first = tokens.firsts.get(i);
            int end = tokens.firsts.get(i + 1);
            int closer = blocks.lastLeadingCloser(first, end);
            int closed = closer == NO ? NO : blocks.openers.get(closer);
            int decider = closed == NO ? NO : blocks.pairs.get(closed);
            int reason = BY_CLOSED;
            int starter = first < end ? rules.best(STARTER, blocks.rulesOf.get(first)) : NO;
            if (rules.beats(starter, decider)) {
                decider = starter;
                reason = BY_STARTER;
            }
            int joiner = first < end ? joinerBehind(first - 1, rules, blocks) : NO;
            if (rules.beats(joiner, decider)) {
                decider = joiner;
                reason = BY_JOINER;
            }
            if (decider != NO && reason == BY_CLOSED) {
                standByClosed(i, closed, rules.closings.get(decider), tokens, blocks);
            } else {
                // Leading closers open nothing but at their end: what they leave open was open before.
                int depth = closed == NO ? blocks.depths.get(i) : blocks.levels.get(closed);
                standOnGround(i, blocks.openBefore(i, depth - 1), tokens, blocks);
                addSteps(i, decider, reason, rules);
            }
        }

        private static int joinerBehind(int t, Rules rules, Blocks blocks) {
            return t < 0 || blocks.pairs.get(t) != NO ? NO : rules.best(JOINER, blocks.rulesOf.get(t));
        }

        private void standOnGround(int i, int block, Tokens tokens, Blocks blocks) {
            extras.set(i, 0);
            if (block == NO) {
                reasons.set(i, BY_BASE);
                deciders.set(i, NO);
                anchors.set(i, NO);
                return;
            }
            reasons.set(i, blocks.offsets.get(block) > 0 ? BY_COLUMN : BY_STEPS);
            deciders.set(i, blocks.pairs.get(block));
            anchors.set(i, tokens.homes.get(block));
            offsets.set(i, blocks.offsets.get(block));
            steps.set(i, blocks.steps.get(block));
        }

        private void addSteps(int i, int decider, int reason, Rules rules) {
            if (decider != NO) {
                reasons.set(i, reason);
                deciders.set(i, decider);
                extras.set(i, rules.steps.get(decider));
            }
        }

        private void standByClosed(int i, int closed, int closing, Tokens tokens, Blocks blocks) {
            standOnGround(i, closed, tokens, blocks);
            reasons.set(i, BY_CLOSED);
            if (closing != 1) {
                steps.set(i, 0);
                offsets.set(i, closing == 0 ? 0 : tokens.starts.get(closed));
            }
        }
    }

    /** The different tokens of the kinds 0 and 1, in the order in which they first occur. */
    private static final class Vocabulary {
        int size = 0;
        /** The first token of each. */
        final Row samples = new Row(MAX_TOKENS);
        final Row uses = new Row(MAX_TOKENS);

        void count(Lines lines, Tokens tokens) {
            size = 0;
            for (int t = 0; t < tokens.count; t++) {
                if (tokens.kinds.get(t) != QUOTED) {
                    countToken(t, lines, tokens);
                }
            }
        }

        private void countToken(int t, Lines lines, Tokens tokens) {
            for (int w = 0; w < size; w++) {
                if (sameText(samples.get(w), t, lines, tokens)) {
                    uses.set(w, uses.get(w) + 1);
                    return;
                }
            }
            samples.set(size, t);
            uses.set(size, 1);
            size++;
        }

        private static boolean sameText(int t, int u, Lines lines, Tokens tokens) {
            int size = tokens.sizes.get(t);
            if (size != tokens.sizes.get(u)) {
                return false;
            }
            for (int k = 0; k < size; k++) {
                if (lines.byteOf(tokens.homes.get(t), tokens.starts.get(t) + k)
                        != lines.byteOf(tokens.homes.get(u), tokens.starts.get(u) + k)) {
                    return false;
                }
            }
            return true;
        }

        int commonest() {
            int best = NO;
            for (int w = 0; w < size; w++) {
                if (best == NO || uses.get(w) > uses.get(best)) {
                    best = w;
                }
            }
            return best;
        }
    }

    /** The remembered states, as a ring in which the oldest one makes room. */
    private static final class History {
        int count = 0;
        private int oldest = 0;
        private final State[] ring = new State[MAX_STATES];

        History() {
            for (int j = 0; j < ring.length; j++) {
                ring[j] = new State();
            }
        }

        void remember(State state) {
            if (count >= MAX_STATES) {
                oldest = (oldest + 1) % MAX_STATES;
                count = MAX_STATES - 1;
            }
            State place = at(count);
            if (place != null) {
                place.copy(state);
                count++;
            }
        }

        void takeLatest(State state) {
            State latest = at(count - 1);
            if (latest != null) {
                state.copy(latest);
                count--;
            }
        }

        /** The place with this age, 0 for the oldest one, or null. */
        private State at(int age) {
            int j = (oldest + age) % MAX_STATES;
            return age >= 0 && j >= 0 && j < ring.length ? ring[j] : null;
        }
    }
}
