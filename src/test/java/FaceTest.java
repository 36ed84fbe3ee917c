import java.lang.management.ManagementFactory;
import java.lang.reflect.Constructor;
import java.lang.reflect.Field;
import java.lang.reflect.Method;
import java.lang.reflect.Modifier;
import java.nio.file.Files;
import java.nio.file.Path;
import java.util.Arrays;
import java.util.List;
import java.util.Set;
import java.util.TreeSet;
import java.util.regex.Matcher;
import java.util.regex.Pattern;

/** The public face, what of ../shared/LANGUAGE.md a test can see, and that no call makes objects. */
public final class FaceTest {
    public static void main(String[] args) throws Exception {
        methods();
        constantsAndConstructor();
        classesInside();
        source();
        callsMakeNoObjects();
        Check.finish();
    }

    /** The methods that the document's face has, each as "int shift(int, int, int)". */
    private static Set<String> face() {
        String text = Doc.text();
        Matcher method = Pattern.compile("    public (int|long) (\\w+)\\((.*)\\);").matcher(
                text.substring(text.indexOf("## The public face"), text.indexOf("## Terms")));
        Set<String> found = new TreeSet<>();
        while (method.find()) {
            found.add(method.group(1) + " " + method.group(2) + "(" + method.group(3).replaceAll(" \\w+(?=,|$)", "") + ")");
        }
        return found;
    }

    private static Set<String> faceNames() {
        Set<String> names = new TreeSet<>();
        for (String entry : face()) names.add(entry.substring(entry.indexOf(' ') + 1, entry.indexOf('(')));
        return names;
    }

    private static void methods() {
        Set<String> found = new TreeSet<>();
        for (Method m : AutoIndenter.class.getDeclaredMethods()) {
            if (Modifier.isPublic(m.getModifiers())) {
                String types = Arrays.toString(m.getParameterTypes()).replaceAll("[\\[\\]]", "");
                found.add(m.getReturnType() + " " + m.getName() + "(" + types + ")");
                Check.due(m.getName() + " is static", Modifier.isStatic(m.getModifiers()) ? 1 : 0, 0);
            } else {
                Check.due(m.getName() + " is private", Modifier.isPrivate(m.getModifiers()) ? 1 : 0, 1);
                Check.due(m.getName() + " bears a public name", faceNames().contains(m.getName()) ? 1 : 0, 0);
            }
        }
        Check.due("the public methods", String.join("\n", found), String.join("\n", face()));
        Check.due("how many they are", found.size(), 51);
    }

    private static void constantsAndConstructor() throws Exception {
        Check.due("BAD", AutoIndenter.BAD, -1);
        Check.due("STATE", AutoIndenter.STATE, -2);
        Check.due("FULL", AutoIndenter.FULL, -3);
        Check.due("NONE", AutoIndenter.NONE, -9);
        List<String> open = List.of("BAD", "STATE", "FULL", "NONE");
        for (Field f : AutoIndenter.class.getDeclaredFields()) {
            boolean visible = !Modifier.isPrivate(f.getModifiers());
            Check.due("the field " + f.getName() + " is visible", visible ? 1 : 0, open.contains(f.getName()) ? 1 : 0);
        }
        Constructor<?>[] all = AutoIndenter.class.getDeclaredConstructors();
        Check.due("constructors", all.length, 1);
        Check.due("it is public", Modifier.isPublic(all[0].getModifiers()) ? 1 : 0, 1);
        Check.due("the class is public and final", AutoIndenter.class.getModifiers(),
                Modifier.PUBLIC | Modifier.FINAL);
    }

    private static void classesInside() {
        Class<?>[] inside = AutoIndenter.class.getDeclaredClasses();
        Check.due("at most twelve classes", inside.length + 1 <= 12 ? 1 : 0, 1);
        for (Class<?> c : inside) {
            Check.due(c + " is static", Modifier.isStatic(c.getModifiers()) ? 1 : 0, 1);
            Check.due(c + " is public", Modifier.isPublic(c.getModifiers()) ? 1 : 0, 0);
            for (Method m : c.getDeclaredMethods()) {
                Check.due(m + " bears a public name", faceNames().contains(m.getName()) ? 1 : 0, 0);
            }
            ownFields(c);
        }
        ownFields(AutoIndenter.class);
    }

    private static void ownFields(Class<?> c) {
        int own = 0;
        for (Field f : c.getDeclaredFields()) {
            if (Modifier.isStatic(f.getModifiers())) {
                Check.due(f + " is final", Modifier.isFinal(f.getModifiers()) ? 1 : 0, 1);
            } else {
                own++;
            }
        }
        Check.due("at most twenty fields in " + c, own <= 20 ? 1 : 0, 1);
    }

    private static void source() throws Exception {
        String text = Files.readString(Path.of("src/main/java/AutoIndenter.java"));
        Check.due("other signs than ASCII", text.chars().filter(c -> c > 126 || c < 32 && c != '\n').count(), 0);
        String code = text.replaceAll("(?s)/\\*.*?\\*/", "").replaceAll("//[^\n]*", "");
        code = code.replaceAll("\"(\\\\.|[^\"\\\\\n])*\"", "TEXT");
        String[] refused = {"\\bthrow\\b", "\\bthrows\\b", "\\btry\\b", "\\bcatch\\b", "\\bsynchronized\\b", "\\bassert\\b",
            "->", "::", "\\bimport\\b", "\\bpackage\\b", "static \\{", "\\w+Exact\\b", "\\bObject\\b", "\\bSystem\\.(?!arraycopy)"};
        for (String pattern : refused) {
            Matcher m = Pattern.compile(pattern).matcher(code);
            Check.due("the code has " + pattern, m.find() ? 1 : 0, 0);
        }
        longMethods(code);
    }

    private static void longMethods(String code) {
        int lines = 0;
        for (String line : code.split("\n")) {
            boolean end = line.equals("    }") || line.equals("        }");
            boolean begin = line.matches("( {4}| {8})[^ ].*\\) \\{");
            lines = begin ? 0 : lines + 1;
            if (end && lines > 60 && !line.equals("    }")) {
                Check.due("a method is too long", lines, 60);
            }
        }
    }

    private static void callsMakeNoObjects() throws Exception {
        AutoIndenter x = Check.withLines("( a", "b +", "} \"\"\" x");
        Check.pair(x, 0, "()", 1, 1, 1, 1);
        com.sun.management.ThreadMXBean threads =
                (com.sun.management.ThreadMXBean) ManagementFactory.getThreadMXBean();
        manyCalls(x);
        long before = threads.getCurrentThreadAllocatedBytes();
        for (int n = 0; n < 20; n++) {
            manyCalls(x);
        }
        long made = threads.getCurrentThreadAllocatedBytes() - before;
        Check.due("bytes that 20 rounds of calls made, beyond 4096: " + made, made > 4096 ? 1 : 0, 0);
    }

    private static void manyCalls(AutoIndenter x) {
        x.keep(0);
        x.draw(5, 12);
        x.reindent(0, x.lines());
        x.splitLine(0, 2);
        x.joinLines(0);
        x.shift(0, 1, 1);
        x.pin(0);
        x.fewestChanges();
        x.wouldChange();
        x.vocabulary();
        x.commonestByte(0);
        x.digest();
        x.type(43);
        x.starter(3, 1, 1);
        x.clear();
        x.insertLine(0);
        x.replaceLine(0);
        x.removeLine(0);
        x.undo();
        x.back(0);
    }
}
