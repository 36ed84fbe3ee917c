import java.lang.reflect.InvocationTargetException;
import java.lang.reflect.Method;
import java.util.ArrayList;
import java.util.Comparator;
import java.util.List;
import java.util.Random;

/**
 * Random runs of at most 512 calls, each answer held against the Oracle. The number of runs can be
 * given as an argument, and the first seed behind it.
 */
public final class OracleTest {
    private static final int CALLS = 512;
    private static final String[] LINES = {
        "(", ")", "{", "}", "f(a, b", "f (", ") (", "} else {", "begin", "end", "begin begin", "end end",
        "case x", "x +", "y", "# c", "x # (", "\"a # (\" )", "\"\"\"", "\"\"\" (", "a \"\"\" b \"\"\" (",
        "\"\"\"\"", "\"a\\\"b\" (", "\"a\\", "|", "| |", "[x,", "] )", "", "   ", "; # c", "_a9 A", "+ (",
        "((((((((((((((((", "))))", "end ; begin", "case (", ") case", "x \\ y", "abcdefgh abcdefghi",
        "\"\"", "\"\" \"\"\" x", "a    b", "if ( x", "\"s\" )", "\"\"\" )", "\"\"\"\"\"\" (", "} )", ") }",
        "abcdefghijklmnopqrstuvwxyz(){}[]", "++++++++++++++++++++++++++++++ (", "aaaaaaaaaaaaaaaaaaaaaaaaaaaa (b",
        "aaaaaaaaaaaaaaaaaaaaaaaaaaaaa\"\"\"", "aaaaaaaaaaaaaaaaaaaaaaaaaaaaaa\"\\", "(((((((((((", "))))))))))))",
        "begin ( { [", "aaaaaaaaaaaaaaaaaaaaaaaaaaaaaaaab"
    };
    private static final String[] PAIRS = {
        "( )", "()", "{ }", "{}", "[ ]", "begin end", "| |", "( }", "begin )", "if end", "( (", "x y", "begin ;"
    };
    private static final String[] SINGLES = {
        "case", "+", "x", ")", "(", "end", ";", "b", "begin", "#", "]", ",", "}", "{", "z", "y", " c "
    };
    private static final String[] ODD = {
        "", " ", "abcdefgh", "abcdefghi", "a b c", "a \"", "\"", " ( ", "()(", "a(b", "abcdefgh abcdefghi", "( "
    };

    private final Random random;
    private final AutoIndenter x = new AutoIndenter();
    private final Oracle oracle = new Oracle();
    private final List<String> calls = new ArrayList<>();

    private OracleTest(long seed) {
        random = new Random(seed);
    }

    public static void main(String[] args) throws ReflectiveOperationException {
        int runs = args.length > 0 ? Integer.parseInt(args[0]) : 200;
        long first = args.length > 1 ? Long.parseLong(args[1]) : 1;
        Method[] methods = publicMethods();
        for (long seed = first; seed < first + runs; seed++) {
            OracleTest run = new OracleTest(seed);
            if (!run.passes(methods)) {
                System.out.println("seed " + seed + ":");
                run.calls.forEach(call -> System.out.println("  " + call));
                System.exit(1);
            }
        }
        System.out.println(runs + " runs answer as the oracle does");
    }

    /** Sorted, because the order in which reflection tells them is free. */
    private static Method[] publicMethods() {
        List<Method> methods = new ArrayList<>();
        for (Method method : AutoIndenter.class.getDeclaredMethods()) {
            if (java.lang.reflect.Modifier.isPublic(method.getModifiers())) methods.add(method);
        }
        methods.sort(Comparator.comparing(Method::getName));
        return methods.toArray(new Method[0]);
    }

    private boolean passes(Method[] methods) throws ReflectiveOperationException {
        boolean same = true;
        int rules = random.nextInt(10);
        for (int r = 0; r < rules && same; r++) same = rule();
        if (random.nextBoolean()) same = same && call(method(methods, "draw"), random.nextInt(), 12);
        boolean tidy = random.nextBoolean();
        while (calls.size() < CALLS - 60 && same) {
            int kind = random.nextInt(60);
            if (kind < 4) same = insert();
            else if (kind < 6) same = rule();
            else if (kind < 7) same = call(method(methods, "type"), byteOrSo());
            else if (kind < 10 && tidy) same = call(method(methods, "reindent"), 0, oracle.lines());
            else same = any(methods);
        }
        return same && call(method(methods, "digest"));
    }

    private static Method method(Method[] methods, String name) {
        for (Method m : methods) if (m.getName().equals(name)) return m;
        throw new IllegalStateException(name);
    }

    private boolean put(String text, int spaces) throws ReflectiveOperationException {
        boolean same = call(AutoIndenter.class.getMethod("clear"));
        String all = " ".repeat(random.nextInt(30) == 0 ? 35 + spaces : spaces) + text;
        for (int k = 0; k < all.length() && same; k++) {
            same = call(AutoIndenter.class.getMethod("type", int.class), all.charAt(k));
        }
        return same;
    }

    private boolean insert() throws ReflectiveOperationException {
        if (!put(oneOf(LINES), random.nextInt(12))) return false;
        int i = random.nextInt(4) == 0 ? random.nextInt(oracle.lines() + 1) : oracle.lines();
        boolean replace = oracle.lines() == 20 || i < oracle.lines() && random.nextBoolean();
        return call(AutoIndenter.class.getMethod(replace ? "replaceLine" : "insertLine", int.class), i);
    }

    private boolean rule() throws ReflectiveOperationException {
        int r = random.nextInt(12), precedence = random.nextInt(4), kind = random.nextInt(5);
        if (!put(random.nextInt(12) == 0 ? oneOf(ODD) : oneOf(kind < 3 ? PAIRS : SINGLES), 0)) return false;
        if (kind < 3) {
            return call(AutoIndenter.class.getMethod("pair", int.class, int.class, int.class, int.class, int.class),
                    r, precedence, random.nextInt(5), random.nextInt(2), random.nextInt(3));
        }
        return call(AutoIndenter.class.getMethod(kind == 3 ? "starter" : "joiner", int.class, int.class, int.class),
                r, precedence, random.nextInt(9) - 4);
    }

    private String oneOf(String[] texts) {
        return texts[random.nextInt(texts.length)];
    }

    private boolean any(Method[] methods) throws ReflectiveOperationException {
        Method m = methods[random.nextInt(methods.length)];
        String name = m.getName();
        if (name.matches("fewestChanges|bestStep|bestBase") && random.nextInt(6) != 0) return true;
        if (name.matches("back|clear|removeLine|dropRule|undo|setComment|draw") && random.nextInt(3) != 0) return true;
        int[] args = new int[m.getParameterCount()];
        for (int a = 0; a < args.length; a++) args[a] = argument(name);
        if (name.matches("shift|reindent") && random.nextInt(8) != 0) java.util.Arrays.sort(args, 0, 2);
        boolean meet = args.length == 2 && random.nextInt(8) != 0;
        if (meet && name.matches("token.*|openedBy|closedBy")) meetToken(args);
        if (meet && name.matches("block.*|contentColumn")) meetBlock(args);
        return call(m, args);
    }

    private void meetToken(int[] args) {
        args[0] = random.nextInt(oracle.lines() + 1);
        args[1] = random.nextInt(Math.max(1, oracle.tokens(args[0])));
    }

    private void meetBlock(int[] args) {
        args[0] = random.nextInt(oracle.lines() + 1);
        args[1] = random.nextInt(Math.max(1, oracle.depth(args[0])));
    }

    private int byteOrSo() {
        String common = "\"\\#( ){}x+_";
        return random.nextInt(3) == 0 ? 30 + random.nextInt(99) : common.charAt(random.nextInt(common.length()));
    }

    private int argument(String name) {
        if (random.nextInt(60) == 0) {
            int[] odd = {Integer.MIN_VALUE, Integer.MAX_VALUE, -1, -2, 20, 21, 32, 41, 100};
            return odd[random.nextInt(odd.length)];
        }
        if (name.equals("type") || name.equals("setComment") && random.nextBoolean()) return byteOrSo();
        if (name.equals("shift") && random.nextInt(4) == 0) return random.nextInt(20) - 10;
        if (name.equals("setComment")) return random.nextBoolean() ? 35 : 0;
        if (name.matches("keep|back")) return random.nextInt(2);
        if (name.matches("setStep|changesWith")) return random.nextInt(10);
        return random.nextInt(random.nextInt(3) == 0 ? 4 : oracle.lines() + 2);
    }

    private boolean call(Method m, int... args) throws ReflectiveOperationException {
        Object[] boxed = new Object[args.length];
        for (int a = 0; a < args.length; a++) boxed[a] = args[a];
        String shown = m.getName() + java.util.Arrays.toString(args);
        Object due = Oracle.class.getMethod(m.getName(), m.getParameterTypes()).invoke(oracle, boxed);
        Object got;
        try {
            got = m.invoke(x, boxed);
        } catch (InvocationTargetException e) {
            got = e.getCause();
        }
        calls.add(shown + " = " + got + (due.equals(got) ? "" : ", due is " + due));
        return due.equals(got);
    }
}
