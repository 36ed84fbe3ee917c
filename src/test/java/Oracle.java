import java.util.ArrayList;
import java.util.LinkedHashMap;
import java.util.List;
import java.util.Map;

/**
 * The document, followed word by word and without any thought of speed: everything is computed anew
 * for every question. OracleTest holds AutoIndenter against it.
 */
public final class Oracle {
    private static final int BAD = -1, STATE = -2, FULL = -3, NONE = -9;

    private record Line(int indent, String content, boolean pinned) {
        Line at(int column) {
            return new Line(column, content, pinned);
        }

        boolean blank() {
            return content.isEmpty();
        }
    }

    private record Rule(int number, int sort, int precedence, int steps, int mode, int closing,
            String first, String second) {
    }

    private static final class Snapshot {
        List<Line> lines = new ArrayList<>();
        Rule[] rules = new Rule[12];
        int step = 4, base = 0, comment = 35;

        Snapshot copy() {
            Snapshot s = new Snapshot();
            s.lines = new ArrayList<>(lines);
            s.rules = rules.clone();
            s.step = step;
            s.base = base;
            s.comment = comment;
            return s;
        }
    }

    private static final class Token {
        int line, index, start, size, kind;
        String text;
        Block closes, opens;
        boolean stray;
    }

    private static final class Block {
        Rule pair;
        Token opening, closing;
        boolean lost;
    }

    private static final class Reading {
        List<List<Token>> tokens = new ArrayList<>();
        boolean[] guarded;
        /** The stack before each line, and at the end. */
        List<List<Block>> before = new ArrayList<>();
    }

    private record Verdict(int column, int reason, int rule) {
    }

    private Snapshot s = new Snapshot();
    private final List<Snapshot> remembered = new ArrayList<>();
    private final Snapshot[] images = new Snapshot[2];
    private String buffer = "";

    private void record() {
        remembered.add(s.copy());
        if (remembered.size() > 8) {
            remembered.remove(0);
        }
    }

    private boolean isLine(int i) {
        return 0 <= i && i < s.lines.size();
    }

    private static Line asLine(String text, boolean pinned) {
        String content = text.strip();
        if (content.isEmpty()) {
            return new Line(0, "", pinned);
        }
        int indent = text.indexOf(content);
        return indent > 40 || content.length() > 32 ? null : new Line(indent, content, pinned);
    }

    // ---- the text buffer

    public int type(int c) {
        if (c < 32 || c > 126) return BAD;
        if (buffer.length() == 72) return FULL;
        buffer += (char) c;
        return buffer.length();
    }

    public int clear() {
        int had = buffer.length();
        buffer = "";
        return had;
    }

    // ---- lines

    public int insertLine(int i) {
        if (i < 0 || i > s.lines.size()) return BAD;
        Line line = asLine(buffer, false);
        if (s.lines.size() == 20 || line == null) return FULL;
        record();
        s.lines.add(i, line);
        return s.lines.size();
    }

    public int replaceLine(int i) {
        if (!isLine(i)) return BAD;
        Line old = s.lines.get(i);
        Line line = asLine(buffer, old.pinned());
        if (line == null) return FULL;
        record();
        s.lines.set(i, line);
        return old.indent();
    }

    public int removeLine(int i) {
        if (!isLine(i)) return BAD;
        record();
        s.lines.remove(i);
        return s.lines.size();
    }

    public int splitLine(int i, int k) {
        if (!isLine(i) || k <= 0 || k >= s.lines.get(i).content().length()) return BAD;
        if (s.lines.size() == 20) return FULL;
        record();
        Line old = s.lines.get(i);
        s.lines.set(i, new Line(old.indent(), old.content().substring(0, k).stripTrailing(), old.pinned()));
        s.lines.add(i + 1, new Line(0, old.content().substring(k).stripLeading(), false));
        int w = wanted(i + 1);
        if (isProtected(i + 1) == 1) w = 0;
        s.lines.set(i + 1, s.lines.get(i + 1).at(w));
        return w;
    }

    public int joinLines(int i) {
        if (!isLine(i) || !isLine(i + 1)) return BAD;
        Line a = s.lines.get(i), b = s.lines.get(i + 1);
        Line joined;
        if (!a.blank() && !b.blank()) {
            joined = new Line(a.indent(), a.content() + " " + b.content(), a.pinned());
        } else if (!a.blank()) {
            joined = a;
        } else {
            joined = new Line(b.indent(), b.content(), a.pinned());
        }
        if (joined.content().length() > 32) return FULL;
        record();
        s.lines.set(i, joined);
        s.lines.remove(i + 1);
        return joined.content().length();
    }

    public int shift(int from, int to, int d) {
        if (from < 0 || from > s.lines.size() || to < from || to > s.lines.size()) return BAD;
        if (d < -40 || d > 40) return BAD;
        List<Line> moved = new ArrayList<>(s.lines);
        int n = 0;
        for (int i = from; i < to; i++) {
            Line line = moved.get(i);
            if (line.blank()) continue;
            n++;
            if (line.indent() + d < 0 || line.indent() + d > 40) return STATE;
            moved.set(i, line.at(line.indent() + d));
        }
        record();
        s.lines = moved;
        return n;
    }

    public int pin(int i) {
        if (!isLine(i)) return BAD;
        record();
        Line line = s.lines.get(i);
        s.lines.set(i, new Line(line.indent(), line.content(), !line.pinned()));
        return line.pinned() ? 0 : 1;
    }

    public int reindent(int from, int to) {
        if (from < 0 || from > s.lines.size() || to < from || to > s.lines.size()) return BAD;
        record();
        return Integer.bitCount(indentAnew(s, from, to));
    }

    /** Really changes the lines of the snapshot and tells which ones. */
    private static int indentAnew(Snapshot s, int from, int to) {
        int changed = 0;
        for (int i = from; i < to; i++) {
            Verdict v = verdict(s, i);
            Line line = s.lines.get(i);
            if (v == null || line.pinned()) continue;
            if (v.column() != line.indent()) changed |= 1 << i;
            s.lines.set(i, line.at(v.column()));
        }
        return changed;
    }

    public int lines() {
        return s.lines.size();
    }

    public int indentation(int i) {
        return isLine(i) ? s.lines.get(i).indent() : BAD;
    }

    public int length(int i) {
        return isLine(i) ? s.lines.get(i).content().length() : BAD;
    }

    public int byteAt(int i, int k) {
        if (!isLine(i) || k < 0) return BAD;
        String content = s.lines.get(i).content();
        return k < content.length() ? content.charAt(k) : NONE;
    }

    public int isProtected(int i) {
        return isLine(i) ? (read(s).guarded[i] ? 1 : 0) : BAD;
    }

    public int isPinned(int i) {
        return isLine(i) ? (s.lines.get(i).pinned() ? 1 : 0) : BAD;
    }

    // ---- settings and rules

    public int setStep(int v) {
        if (v < 1 || v > 8) return BAD;
        record();
        int old = s.step;
        s.step = v;
        return old;
    }

    public int setBase(int v) {
        if (v < 0 || v > 20) return BAD;
        record();
        int old = s.base;
        s.base = v;
        return old;
    }

    public int setComment(int c) {
        if (c != 0 && (c < 33 || c > 126 || c == '"' || isWord((char) c))) return BAD;
        record();
        int old = s.comment;
        s.comment = c;
        return old;
    }

    private static boolean isWord(char c) {
        return String.valueOf(c).matches("[A-Za-z0-9_]");
    }

    /** The texts, or null, with the position in refusedAt. */
    private String[] texts(int due) {
        String[] found = new String[due];
        int n = 0;
        char before = ' ';
        for (int p = 0; p < buffer.length(); p++) {
            char c = buffer.charAt(p);
            if (c != ' ') {
                boolean goesOn = isWord(c) && isWord(before);
                if (!goesOn && n == due || c == '"' || goesOn && found[n - 1].length() == 8) {
                    refusedAt = p;
                    return null;
                }
                if (goesOn) found[n - 1] += c;
                else found[n++] = String.valueOf(c);
            }
            before = c;
        }
        refusedAt = buffer.length();
        return n == due ? found : null;
    }

    private int refusedAt;

    private int make(Rule rule) {
        record();
        int was = s.rules[rule.number()] == null ? 0 : 1;
        s.rules[rule.number()] = rule;
        return was;
    }

    public int pair(int r, int precedence, int steps, int aligned, int closing) {
        if (r < 0 || r > 11 || precedence < 0 || precedence > 9 || steps < 0 || steps > 4) return BAD;
        if (aligned < 0 || aligned > 1 || closing < 0 || closing > 2) return BAD;
        String[] t = texts(2);
        if (t == null) return -10 - refusedAt;
        return make(new Rule(r, 1, precedence, steps, aligned, closing, t[0], t[1]));
    }

    private int single(int sort, int r, int precedence, int steps) {
        if (r < 0 || r > 11 || precedence < 0 || precedence > 9 || steps < -4 || steps > 4) return BAD;
        String[] t = texts(1);
        if (t == null) return -10 - refusedAt;
        return make(new Rule(r, sort, precedence, steps, 0, 0, t[0], null));
    }

    public int starter(int r, int precedence, int steps) {
        return single(2, r, precedence, steps);
    }

    public int joiner(int r, int precedence, int steps) {
        return single(3, r, precedence, steps);
    }

    public int dropRule(int r) {
        if (r < 0 || r > 11 || s.rules[r] == null) return BAD;
        record();
        s.rules[r] = null;
        int left = 0;
        for (Rule rule : s.rules) if (rule != null) left++;
        return left;
    }

    private static Rule ruleFor(Snapshot s, int sort, Token t) {
        Rule best = null;
        for (Rule rule : s.rules) {
            if (rule == null || rule.sort() != sort || t.kind == 2 || !rule.first().equals(t.text)) continue;
            if (best == null || rule.precedence() > best.precedence()) best = rule;
        }
        return best;
    }

    // ---- reading

    private static Reading read(Snapshot s) {
        Reading reading = new Reading();
        divide(s, reading);
        follow(s, reading);
        return reading;
    }

    private static void divide(Snapshot s, Reading reading) {
        reading.guarded = new boolean[s.lines.size()];
        boolean literal = false;
        for (int i = 0; i < s.lines.size(); i++) {
            List<Token> row = new ArrayList<>();
            reading.tokens.add(row);
            String c = s.lines.get(i).content();
            int p = 0;
            if (literal) {
                reading.guarded[i] = !c.isEmpty();
                int q = c.indexOf("\"\"\"");
                literal = q < 0;
                p = q < 0 ? c.length() : q + 3;
            }
            while (p < c.length()) {
                char b = c.charAt(p);
                if (b == ' ') {
                    p++;
                    continue;
                }
                if (b == s.comment) break;
                Token t = new Token();
                t.line = i;
                t.index = row.size();
                t.start = p;
                int end = p + 1;
                if (c.startsWith("\"\"\"", p)) {
                    t.kind = 2;
                    int q = c.indexOf("\"\"\"", p + 3);
                    literal = q < 0;
                    end = q < 0 ? c.length() : q + 3;
                } else if (b == '"') {
                    t.kind = 2;
                    while (end < c.length() && c.charAt(end) != '"') end += c.charAt(end) == '\\' ? 2 : 1;
                    end = Math.min(c.length(), end + 1);
                } else if (isWord(b)) {
                    t.kind = 0;
                    while (end < c.length() && isWord(c.charAt(end))) end++;
                } else {
                    t.kind = 1;
                }
                t.size = end - p;
                t.text = c.substring(p, end);
                row.add(t);
                p = end;
            }
        }
    }

    private static void follow(Snapshot s, Reading reading) {
        List<Block> stack = new ArrayList<>();
        for (List<Token> row : reading.tokens) {
            reading.before.add(new ArrayList<>(stack));
            for (Token t : row) {
                followToken(s, stack, t);
            }
        }
        reading.before.add(new ArrayList<>(stack));
    }

    private static void followToken(Snapshot s, List<Block> stack, Token t) {
        int at = stack.size() - 1;
        while (t.kind != 2 && at >= 0 && !stack.get(at).pair.second().equals(t.text)) at--;
        if (t.kind != 2 && at >= 0) {
            boolean free = true;
            for (int j = at + 1; j < stack.size(); j++) {
                free &= stack.get(j).pair.precedence() < stack.get(at).pair.precedence();
            }
            if (free) {
                t.closes = stack.get(at);
                t.closes.closing = t;
                for (int j = stack.size() - 1; j >= at; j--) stack.remove(j).lost = j > at;
            }
        }
        if (t.closes == null && t.kind != 2) {
            for (Rule rule : s.rules) {
                t.stray |= rule != null && rule.sort() == 1 && rule.second().equals(t.text);
            }
        }
        Rule opening = ruleFor(s, 1, t);
        if (opening != null && stack.size() < 12) {
            t.opens = new Block();
            t.opens.pair = opening;
            t.opens.opening = t;
            stack.add(t.opens);
        }
    }

    private static boolean byToken(Reading reading, Block b) {
        return b.pair.mode() == 1 && b.opening.index + 1 < reading.tokens.get(b.opening.line).size();
    }

    private static int contentColumn(Snapshot s, Reading reading, Block b) {
        int indent = s.lines.get(b.opening.line).indent();
        if (byToken(reading, b)) {
            return indent + reading.tokens.get(b.opening.line).get(b.opening.index + 1).start;
        }
        return Math.min(40, indent + b.pair.steps() * s.step);
    }

    // ---- wanted indentations

    private static Verdict verdict(Snapshot s, int i) {
        Reading reading = read(s);
        if (s.lines.get(i).blank() || reading.guarded[i]) return null;
        List<Token> row = reading.tokens.get(i);
        List<Block> stack = new ArrayList<>(reading.before.get(i));
        Token last = null;
        for (Token t : row) {
            if (t.closes == null) break;
            last = t;
            while (stack.contains(t.closes)) stack.remove(stack.size() - 1);
            if (t.opens != null) break;
        }
        Block under = stack.isEmpty() ? null : stack.get(stack.size() - 1);
        int ground = under == null ? s.base : contentColumn(s, reading, under);

        List<Verdict> candidates = new ArrayList<>();
        List<Integer> precedences = new ArrayList<>();
        if (last != null) {
            Block closed = last.closes;
            int indent = s.lines.get(closed.opening.line).indent();
            int column = closed.pair.closing() == 0 ? indent
                    : closed.pair.closing() == 1 ? contentColumn(s, reading, closed)
                    : indent + closed.opening.start;
            candidates.add(new Verdict(column, 3, closed.pair.number()));
            precedences.add(closed.pair.precedence());
        }
        Rule starter = row.isEmpty() ? null : ruleFor(s, 2, row.get(0));
        if (starter != null) {
            candidates.add(new Verdict(ground + starter.steps() * s.step, 4, starter.number()));
            precedences.add(starter.precedence());
        }
        Token before = null;
        for (int j = 0; j < i; j++) {
            for (Token t : reading.tokens.get(j)) before = t;
        }
        Rule joiner = row.isEmpty() || before == null || before.opens != null ? null : ruleFor(s, 3, before);
        if (joiner != null) {
            candidates.add(new Verdict(ground + joiner.steps() * s.step, 5, joiner.number()));
            precedences.add(joiner.precedence());
        }
        int reason = under == null ? 0 : byToken(reading, under) ? 2 : 1;
        candidates.add(new Verdict(ground, reason, under == null ? NONE : under.pair.number()));
        precedences.add(-1);
        int best = 0;
        for (int j = 1; j < candidates.size(); j++) {
            if (precedences.get(j) > precedences.get(best)) best = j;
        }
        Verdict v = candidates.get(best);
        return new Verdict(Math.max(0, Math.min(40, v.column())), v.reason(), v.rule());
    }

    public int wanted(int i) {
        if (!isLine(i)) return BAD;
        Verdict v = verdict(s, i);
        return v == null ? NONE : v.column();
    }

    public int reason(int i) {
        if (!isLine(i)) return BAD;
        Verdict v = verdict(s, i);
        return v == null ? NONE : v.reason();
    }

    public int decidingRule(int i) {
        if (!isLine(i)) return BAD;
        Verdict v = verdict(s, i);
        return v == null ? NONE : v.rule();
    }

    public int wouldChange() {
        return indentAnew(s.copy(), 0, s.lines.size());
    }

    public int changesWith(int step, int base) {
        if (step < 1 || step > 8 || base < 0 || base > 20) return BAD;
        Snapshot other = s.copy();
        other.step = step;
        other.base = base;
        return Integer.bitCount(indentAnew(other, 0, s.lines.size()));
    }

    public int fewestChanges() {
        int fewest = Integer.MAX_VALUE;
        for (int step = 1; step <= 8; step++) {
            for (int base = 0; base <= 20; base++) fewest = Math.min(fewest, changesWith(step, base));
        }
        return fewest;
    }

    public int bestStep() {
        int fewest = fewestChanges();
        for (int step = 1; step <= 8; step++) {
            for (int base = 0; base <= 20; base++) if (changesWith(step, base) == fewest) return step;
        }
        return -1000;
    }

    public int bestBase() {
        int fewest = fewestChanges(), step = bestStep();
        for (int base = 0; base <= 20; base++) if (changesWith(step, base) == fewest) return base;
        return -1000;
    }

    // ---- tokens and blocks

    public int tokens(int i) {
        return isLine(i) ? read(s).tokens.get(i).size() : BAD;
    }

    private Token token(int i, int k) {
        if (!isLine(i)) return null;
        List<Token> row = read(s).tokens.get(i);
        return k < 0 || k >= row.size() ? null : row.get(k);
    }

    public int tokenAt(int i, int k) {
        Token t = token(i, k);
        return t == null ? BAD : t.start;
    }

    public int tokenLength(int i, int k) {
        Token t = token(i, k);
        return t == null ? BAD : t.size;
    }

    public int tokenKind(int i, int k) {
        Token t = token(i, k);
        return t == null ? BAD : t.kind;
    }

    public int openedBy(int i, int k) {
        Token t = token(i, k);
        if (t == null) return BAD;
        return t.closes == null ? NONE : 100 * t.closes.opening.line + t.closes.opening.index;
    }

    public int closedBy(int i, int k) {
        Token t = token(i, k);
        if (t == null) return BAD;
        if (t.opens == null || t.opens.lost || t.opens.closing == null) return NONE;
        return 100 * t.opens.closing.line + t.opens.closing.index;
    }

    public int depth(int i) {
        return i < 0 || i > s.lines.size() ? BAD : read(s).before.get(i).size();
    }

    private Block block(Reading reading, int i, int k) {
        if (i < 0 || i > s.lines.size() || k < 0 || k >= reading.before.get(i).size()) return null;
        return reading.before.get(i).get(k);
    }

    public int blockRule(int i, int k) {
        Block b = block(read(s), i, k);
        return b == null ? BAD : b.pair.number();
    }

    public int blockOpening(int i, int k) {
        Block b = block(read(s), i, k);
        if (b == null) return BAD;
        return 100 * b.opening.line + s.lines.get(b.opening.line).indent() + b.opening.start;
    }

    public int contentColumn(int i, int k) {
        Reading reading = read(s);
        Block b = block(reading, i, k);
        return b == null ? BAD : contentColumn(s, reading, b);
    }

    private List<Token> allTokens() {
        List<Token> all = new ArrayList<>();
        for (List<Token> row : read(s).tokens) all.addAll(row);
        return all;
    }

    public int strays() {
        return (int) allTokens().stream().filter(t -> t.stray).count();
    }

    public int lost() {
        return (int) allTokens().stream().filter(t -> t.opens != null && t.opens.lost).count();
    }

    private Map<String, Integer> counts() {
        Map<String, Integer> counts = new LinkedHashMap<>();
        for (Token t : allTokens()) if (t.kind != 2) counts.merge(t.text, 1, Integer::sum);
        return counts;
    }

    private String commonest() {
        Map<String, Integer> counts = counts();
        String best = null;
        for (String text : counts.keySet()) {
            if (best == null || counts.get(text) > counts.get(best)) best = text;
        }
        return best;
    }

    public int vocabulary() {
        return counts().size();
    }

    public int commonestCount() {
        String text = commonest();
        return text == null ? NONE : counts().get(text);
    }

    public int commonestByte(int k) {
        if (k < 0) return BAD;
        String text = commonest();
        return text == null || k >= text.length() ? NONE : text.charAt(k);
    }

    // ---- history

    public int undo() {
        if (remembered.isEmpty()) return STATE;
        s = remembered.remove(remembered.size() - 1);
        return remembered.size();
    }

    public int keep(int k) {
        if (k < 0 || k > 1) return BAD;
        int was = images[k] == null ? 0 : 1;
        images[k] = s.copy();
        return was;
    }

    public int back(int k) {
        if (k < 0 || k > 1 || images[k] == null) return BAD;
        s = images[k].copy();
        remembered.clear();
        return s.lines.size();
    }

    private int x;

    private int number() {
        x = x * 1103515245 + 12345;
        return (x >>> 16) & 32767;
    }

    public int draw(int seed, int n) {
        if (n < 1 || n > 12) return BAD;
        record();
        x = seed;
        String[] pieces = "a( ) { } [x, ] begin end case \"s\" #c y+ \"\"\" z f(b, ;".split(" ");
        int added = 0;
        while (added < n && s.lines.size() < 20) {
            int indent = number() % 12;
            int count = 1 + number() % 3;
            List<String> parts = new ArrayList<>();
            for (int p = 0; p < count; p++) parts.add(pieces[number() % 16]);
            s.lines.add(new Line(indent, String.join(" ", parts), false));
            added++;
        }
        return added;
    }

    public long digest() {
        List<Integer> values = new ArrayList<>();
        values.add(s.lines.size());
        for (int i = 0; i < s.lines.size(); i++) {
            values.add(indentation(i));
            values.add(length(i));
            addBytes(values, s.lines.get(i).content());
            values.add(isPinned(i));
            values.add(wanted(i));
        }
        values.add(s.step);
        values.add(s.base);
        values.add(s.comment);
        for (Rule rule : s.rules) {
            values.add(rule == null ? 0 : rule.sort());
            if (rule == null) continue;
            values.add(rule.precedence());
            values.add(rule.steps());
            if (rule.sort() == 1) {
                values.add(rule.mode());
                values.add(rule.closing());
            }
            addBytes(values, rule.sort() == 1 ? rule.first() + " " + rule.second() : rule.first());
        }
        values.add(remembered.size());
        values.add((images[0] == null ? 0 : 1) + (images[1] == null ? 0 : 1));
        values.add(buffer.length());
        long h = 18310;
        for (int v : values) h = 31 * h + v;
        return h;
    }

    private static void addBytes(List<Integer> values, String text) {
        text.chars().forEach(values::add);
    }
}
