import java.io.IOException;
import java.lang.reflect.Array;
import java.lang.reflect.Constructor;
import java.lang.reflect.Field;
import java.lang.reflect.Method;
import java.lang.reflect.Modifier;
import java.nio.file.Files;
import java.nio.file.Path;
import java.util.ArrayDeque;
import java.util.Arrays;
import java.util.Collections;
import java.util.Deque;
import java.util.IdentityHashMap;
import java.util.List;
import java.util.Set;
import java.util.TreeSet;
import java.util.regex.Matcher;
import java.util.regex.Pattern;

/** The face of the document, the rules of LANGUAGE.md that a text or a mirror can show, and the room an object takes. */
public final class RulesTest {
    private static final Path SOURCE = Path.of("src/main/java/BellTable.java");

    private static final List<String> FACE = List.of(
        "feed(int,int,int,int,int)", "end(int)", "score()", "manners()", "fault(int)", "rule(int)", "stroke(int,int)",
        "ringers(int)", "absent(int,boolean)", "hands(long)", "hand(int)", "part()", "give(int,int)", "parted(int)",
        "load(int)", "cover(int)", "help(int)", "helped(int)", "clashes()", "clash(int,int)", "damp()", "heard()",
        "laid(int,int)", "more()", "blame(int)", "pass(int)", "away(int,int,int)", "back(int,int)",
        "there(int,int,int)", "key(int,int)", "keyed(int)", "count(int)");

    private static final List<String> BANNED = List.of(
        "\\bthrows?\\b", "\\btry\\b", "\\bcatch\\b", "\\bsynchronized\\b", "\\bassert\\b", "->", "::", "\\bimport\\b",
        "\\bpackage\\b", "\\bprotected\\b", "Exact\\(", "\\bvar\\b", "\\bObject\\b", "\\bwhile \\(true\\)",
        "\\bfor \\(;;\\)", "@", "\\bmain\\b");

    private static int wrong = 0;

    private static void due(String what, Object got, Object want) {
        if (!got.equals(want)) {
            wrong++;
            System.out.println(what + ": is " + got + ", due is " + want);
        }
    }

    private static String signature(Method m) {
        StringBuilder s = new StringBuilder(m.getName()).append('(');
        for (Class<?> c : m.getParameterTypes()) {
            s.append(s.charAt(s.length() - 1) == '(' ? "" : ",").append(c.getName());
        }
        return s.append(')').toString();
    }

    private static void face() throws IllegalAccessException {
        Set<String> open = new TreeSet<>();
        Set<String> names = new TreeSet<>();
        for (Method m : BellTable.class.getDeclaredMethods()) {
            if (!Modifier.isPrivate(m.getModifiers())) {
                open.add(signature(m));
                names.add(m.getName());
                due(m.getName() + " answers", m.getReturnType(), int.class);
                due(m.getName() + " is public", Modifier.isPublic(m.getModifiers()), true);
            }
        }
        due("methods", open, new TreeSet<>(FACE));
        for (Method m : BellTable.class.getDeclaredMethods()) {
            if (Modifier.isPrivate(m.getModifiers())) {
                due(m.getName() + " bears a public name", names.contains(m.getName()), false);
            }
        }
        Set<String> constants = new TreeSet<>();
        for (Field f : BellTable.class.getDeclaredFields()) {
            if (!Modifier.isPrivate(f.getModifiers())) {
                constants.add(f.getName() + "=" + f.get(null));
            }
            if (Modifier.isStatic(f.getModifiers())) {
                due(f.getName() + " is final", Modifier.isFinal(f.getModifiers()), true);
            }
        }
        due("constants", constants, new TreeSet<>(List.of("NONE=-1", "RANGE=-2", "FULL=-3", "STATE=-4")));
        Constructor<?>[] made = BellTable.class.getDeclaredConstructors();
        due("constructors", made.length, 1);
        due("its parameters", made[0].getParameterCount(), 0);
        due("final", Modifier.isFinal(BellTable.class.getModifiers()), true);
    }

    private static void classesInside() {
        Class<?>[] inside = BellTable.class.getDeclaredClasses();
        due("at most twelve classes", inside.length + 1 <= 12, true);
        for (Class<?> c : inside) {
            due(c.getName() + " is static", Modifier.isStatic(c.getModifiers()), true);
            long fields = Arrays.stream(c.getDeclaredFields()).filter(f -> !Modifier.isStatic(f.getModifiers())).count();
            due(c.getName() + " has at most twenty fields", fields <= 20, true);
            for (Method m : c.getDeclaredMethods()) {
                due(m + " has at most seven parameters", m.getParameterCount() <= 7, true);
                boolean open = FACE.stream().anyMatch(f -> f.startsWith(m.getName() + "("));
                due(m + " bears a public name", open, false);
            }
        }
    }

    private static void words() throws IOException {
        String code = Files.readString(SOURCE).replaceAll("(?s)/\\*.*?\\*/", "").replaceAll("//[^\n]*", "");
        for (String banned : BANNED) {
            Matcher m = Pattern.compile(banned).matcher(code);
            due("banned: " + banned, m.find(), false);
        }
        due("a method is short", longestMethod(code) <= 60, true);
        for (char c : code.toCharArray()) {
            due("sign " + c, c < 128, true);
        }
        // nothing is made but in constructors and initialisers, where it is counted below
        Matcher m = Pattern.compile("\n {12,}[^\n]*\\bnew\\b").matcher(code);
        due("made within a method of a class inside", m.find(), false);
    }

    private static int longestMethod(String code) {
        int longest = 0;
        int at = 0;
        int start = 0;
        for (String line : code.split("\n")) {
            at++;
            if (line.matches("( {4}| {8})[a-z].*\\) \\{")) {
                start = at;
            } else if (line.matches("( {4}| {8})\\}")) {
                longest = Math.max(longest, at - start + 1);
                start = at;
            }
        }
        return longest;
    }

    /** What one object keeps: a room of 7.3 million elements must hold many. */
    private static void room() throws IllegalAccessException {
        Set<Object> seen = Collections.newSetFromMap(new IdentityHashMap<>());
        Deque<Object> todo = new ArrayDeque<>();
        todo.add(new BellTable());
        int elements = 0;
        while (!todo.isEmpty()) {
            Object o = todo.poll();
            if (!seen.add(o)) {
                continue;
            }
            if (o.getClass().isArray()) {
                elements += Array.getLength(o);
                continue;
            }
            for (Field f : o.getClass().getDeclaredFields()) {
                if (!Modifier.isStatic(f.getModifiers())) {
                    f.setAccessible(true);
                    elements++;
                    if (!f.getType().isPrimitive()) {
                        todo.add(f.get(o));
                    }
                }
            }
        }
        System.out.println("one object: " + seen.size() + " objects and arrays, " + elements + " fields and elements");
        due("few objects", seen.size() <= 100, true);
        due("few elements", elements <= 30000, true);
    }

    public static void main(String[] args) throws Exception {
        face();
        classesInside();
        words();
        room();
        System.out.println(wrong == 0 ? "all rules are kept" : wrong + " rules are not kept");
        if (wrong != 0) {
            System.exit(1);
        }
    }
}
