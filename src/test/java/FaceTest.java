import java.lang.reflect.Constructor;
import java.lang.reflect.Field;
import java.lang.reflect.Member;
import java.lang.reflect.Method;
import java.lang.reflect.Modifier;
import java.nio.file.Files;
import java.nio.file.Path;
import java.util.ArrayDeque;
import java.util.Collections;
import java.util.Deque;
import java.util.HashSet;
import java.util.IdentityHashMap;
import java.util.Set;
import java.util.TreeSet;

/** The face of the class is the document's and no more, and its text keeps to what LANGUAGE.md leaves. */
public final class FaceTest {
    private static final String FACE = "row/3 set/3 copy/5 drop/1 feed/1 house/0 fault/0 minutes/1 turn/2 plug/2 mend/1 mains/0 "
        + "rate/2 undo/0 line/2 thing/2 heat/2 later/2 lost/1 dark/0 shed/3 plugs/2 holds/2 faulty/2 bill/2 fits/5 chance/4 "
        + "drawn/3 image/1 restore/1 kind/1 as/2 ask/2 trace/1 count/1 status/0";
    private static final Path SOURCE = Path.of("src/main/java/FuseBox.java");

    private static final Due DUE = new Due();

    public static void main(String[] args) throws Exception {
        methods();
        fields();
        classes();
        text();
        room();
        DUE.end();
    }

    private static void methods() {
        DUE.at("methods");
        Set<String> want = new TreeSet<>(Set.of(FACE.split(" ")));
        Set<String> names = new HashSet<>();
        want.forEach(w -> names.add(w.substring(0, w.indexOf('/'))));
        Set<String> got = new TreeSet<>();
        for (Method m : FuseBox.class.getDeclaredMethods()) {
            if (Modifier.isPrivate(m.getModifiers())) {
                DUE.holds("private " + m.getName() + " has a name of its own", !names.contains(m.getName()));
            } else {
                got.add(m.getName() + "/" + m.getParameterCount());
                DUE.holds(m + " is public", Modifier.isPublic(m.getModifiers()) && !Modifier.isStatic(m.getModifiers()));
                DUE.holds(m + " is over ints", m.getReturnType() == int.class);
                for (Class<?> p : m.getParameterTypes()) {
                    DUE.holds(m + " is over ints", p == int.class);
                }
            }
        }
        DUE.holds("methods are " + got + ", due are " + want, got.equals(want));
        Constructor<?>[] constructors = FuseBox.class.getDeclaredConstructors();
        DUE.is("constructors", constructors.length, 1);
        DUE.holds("it is public", Modifier.isPublic(constructors[0].getModifiers()) && constructors[0].getParameterCount() == 0);
        DUE.holds("public and final", Modifier.isFinal(FuseBox.class.getModifiers()) && Modifier.isPublic(FuseBox.class.getModifiers()));
    }

    private static void fields() throws Exception {
        DUE.at("fields");
        Set<String> open = new TreeSet<>();
        for (Field f : FuseBox.class.getDeclaredFields()) {
            if (!Modifier.isPrivate(f.getModifiers())) {
                open.add(f.getName());
                DUE.holds(f + " is a constant", isConstant(f) && Modifier.isPublic(f.getModifiers()));
            }
        }
        DUE.holds("open fields are " + open, open.equals(new TreeSet<>(Set.of("NONE", "BAD", "STATE", "FULL"))));
    }

    private static boolean isConstant(Member m) {
        return Modifier.isStatic(m.getModifiers()) && Modifier.isFinal(m.getModifiers());
    }

    private static void classes() {
        DUE.at("classes");
        Class<?>[] inside = FuseBox.class.getDeclaredClasses();
        DUE.holds("some twelve classes, not " + (inside.length + 1), inside.length + 1 <= 12);
        for (Class<?> c : inside) {
            DUE.holds(c + " is static", Modifier.isStatic(c.getModifiers()));
            DUE.holds(c + " is not open", !Modifier.isPublic(c.getModifiers()) && !Modifier.isProtected(c.getModifiers()));
            looksPlain(c);
        }
        looksPlain(FuseBox.class);
    }

    private static void looksPlain(Class<?> c) {
        int fields = 0;
        for (Field f : c.getDeclaredFields()) {
            fields += isConstant(f) ? 0 : 1;
            DUE.holds(f + ": static ones are final", !Modifier.isStatic(f.getModifiers()) || Modifier.isFinal(f.getModifiers()));
        }
        DUE.holds(c + " has some twenty fields, not " + fields, fields <= 20);
        for (Method m : c.getDeclaredMethods()) {
            DUE.holds(m + " takes seven at most", m.getParameterCount() <= 7);
        }
    }

    private static void text() throws Exception {
        DUE.at("text");
        String all = Files.readString(SOURCE);
        DUE.holds("signs up to 126", all.chars().allMatch(c -> c == '\n' || c >= 32 && c <= 126));
        String code = all.replaceAll("(?s)/\\*.*?\\*/", "").replaceAll("//[^\n]*", "");
        for (String word : new String[] {"throw", "throws", "try", "catch", "finally", "synchronized", "assert", "import", "package",
            "yield", "volatile", "native", "record", "double", "float", "protected", "Object", "Exception", "equals", "hashCode",
            "toString", "System.out", "values", "transient", "goto"}) {
            DUE.holds("no " + word, !code.matches("(?s).*\\b" + word + "\\b.*"));
        }
        for (String sign : new String[] {"->", "::", "@", "Exact(", "while (true)", "for (;;)"}) {
            DUE.holds("no " + sign, !code.contains(sign));
        }
        DUE.holds("System for arraycopy alone", !code.matches("(?s).*System\\.(?!arraycopy).*"));
        int longest = longestMethod(code.split("\n"));
        DUE.holds("methods of some sixty lines, not " + longest, longest <= 60);
    }

    /** By indentation: a method's head ends in an opening brace, its end stands as far in as its head. */
    private static int longestMethod(String[] lines) {
        int longest = 0;
        for (int i = 0; i < lines.length; i++) {
            if (lines[i].matches("( {4}| {8})[A-Za-z][^=;]*\\) \\{")) {
                String end = lines[i].substring(0, lines[i].length() - lines[i].stripLeading().length()) + "}";
                int j = i;
                while (j < lines.length && !lines[j].equals(end)) {
                    j++;
                }
                longest = Math.max(longest, j - i + 1);
            }
        }
        return longest;
    }

    /** The objects that a new box holds, by a walk over all of them; none is made by later calls (see RoomTest). */
    private static void room() throws Exception {
        DUE.at("room");
        Set<Object> seen = Collections.newSetFromMap(new IdentityHashMap<>());
        Deque<Object> left = new ArrayDeque<>();
        left.add(new FuseBox());
        int objects = 0;
        long elements = 0;
        while (!left.isEmpty()) {
            Object o = left.pop();
            if (!seen.add(o)) {
                continue;
            }
            objects++;
            if (o instanceof int[]) {
                elements += ((int[]) o).length;
            } else if (o instanceof Object[]) {
                elements += ((Object[]) o).length;
                for (Object e : (Object[]) o) {
                    if (e != null) {
                        left.add(e);
                    }
                }
            } else {
                elements += fieldsOf(o, left);
            }
        }
        DUE.holds("objects of a box: " + objects, objects <= 400);
        DUE.holds("fields and elements of a box: " + elements, elements <= 4000);
        System.out.println("a box has " + objects + " objects, " + elements + " fields and elements");
    }

    private static int fieldsOf(Object o, Deque<Object> left) throws Exception {
        int fields = 0;
        for (Class<?> c = o.getClass(); c != Object.class; c = c.getSuperclass()) {
            for (Field f : c.getDeclaredFields()) {
                if (!Modifier.isStatic(f.getModifiers())) {
                    fields++;
                    f.setAccessible(true);
                    Object value = f.getType().isPrimitive() ? null : f.get(o);
                    if (value != null) {
                        left.add(value);
                    }
                }
            }
        }
        return fields;
    }
}
