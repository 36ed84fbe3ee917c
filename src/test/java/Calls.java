import java.lang.reflect.Method;
import java.lang.reflect.Modifier;
import java.util.Map;
import java.util.TreeMap;

/** Makes calls that are written as text, as the document and README.md write them. */
final class Calls {
    private static final Map<String, Method> METHODS = publicMethods();

    private Calls() {
    }

    /** The public methods by their names, of which no two are the same. */
    static Map<String, Method> publicMethods() {
        Map<String, Method> found = new TreeMap<>();
        for (Method m : AutoIndenter.class.getDeclaredMethods()) {
            if (Modifier.isPublic(m.getModifiers())) {
                found.put(m.getName(), m);
            }
        }
        return found;
    }

    /** Makes a call like "shift(0, 5, -1)" or "type('x')". */
    static long make(AutoIndenter x, String call) throws ReflectiveOperationException {
        String name = call.substring(0, call.indexOf('('));
        String list = call.substring(call.indexOf('(') + 1, call.lastIndexOf(')'));
        String[] texts = list.isEmpty() ? new String[0] : list.split(", ");
        Object[] arguments = new Object[texts.length];
        for (int k = 0; k < texts.length; k++) {
            boolean sign = texts[k].startsWith("'");
            arguments[k] = sign ? texts[k].charAt(1) : Integer.parseInt(texts[k]);
        }
        Method method = METHODS.get(name);
        if (method == null) {
            throw new NoSuchMethodException(name);
        }
        return ((Number) method.invoke(x, arguments)).longValue();
    }

    /** The number that an answer like "7" or "BAD" stands for. */
    static long answer(String text) throws ReflectiveOperationException {
        return text.matches("-?\\d+")
                ? Long.parseLong(text)
                : AutoIndenter.class.getField(text).getInt(null);
    }
}
