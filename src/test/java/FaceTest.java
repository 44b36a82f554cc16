import java.io.IOException;
import java.lang.reflect.Constructor;
import java.lang.reflect.Field;
import java.lang.reflect.Method;
import java.lang.reflect.Modifier;
import java.nio.file.Files;
import java.nio.file.Path;
import java.util.ArrayDeque;
import java.util.Deque;
import java.util.IdentityHashMap;
import java.util.List;
import java.util.Map;
import java.util.TreeSet;

/** The public face as the document tells it, what LANGUAGE.md asks of the source, and the room of an object. */
public final class FaceTest {
    private static final List<String> FACE = List.of(
            "int feed(int,int,int,int,int) IllegalStateException",
            "void end(int) IllegalArgumentException",
            "int unit(int) IllegalArgumentException UnsupportedOperationException",
            "int entry(int,int) IndexOutOfBoundsException IllegalArgumentException UnsupportedOperationException",
            "int number(int,int,int,long) IndexOutOfBoundsException IllegalArgumentException"
                    + " UnsupportedOperationException",
            "int bytes(int,int,int) IndexOutOfBoundsException IllegalArgumentException UnsupportedOperationException",
            "int reference(int,int,int,int) IndexOutOfBoundsException IllegalStateException IllegalArgumentException"
                    + " UnsupportedOperationException",
            "int clear()",
            "int write()",
            "int size(int) IndexOutOfBoundsException",
            "int octet(int,int) IndexOutOfBoundsException",
            "int load(int) IndexOutOfBoundsException UnsupportedOperationException",
            "int alter(int,int,int) IndexOutOfBoundsException",
            "int read()",
            "int fault(int) IndexOutOfBoundsException",
            "int count(int) IndexOutOfBoundsException",
            "int about(int,int) IndexOutOfBoundsException",
            "int child(int,int) IndexOutOfBoundsException",
            "int root(int) IndexOutOfBoundsException",
            "int attribute(int,int,int) IndexOutOfBoundsException",
            "long value(int,int) IndexOutOfBoundsException",
            "int letter(int,int,int) IndexOutOfBoundsException",
            "int find(int) IndexOutOfBoundsException",
            "int covers(long)");

    public static void main(String[] args) throws IOException {
        constants();
        methods();
        nestedClasses();
        source();
        room();
        Run.finish();
    }

    private static void constants() {
        Run.same("NONE", EntryTree.NONE, -1);
        Run.same("TOO_LARGE", EntryTree.TOO_LARGE, -2);
        TreeSet<String> seen = new TreeSet<>();
        for (Field field : EntryTree.class.getDeclaredFields()) {
            if (!Modifier.isPrivate(field.getModifiers())) {
                seen.add(Modifier.toString(field.getModifiers()) + " " + field.getType() + " " + field.getName());
            }
        }
        Run.same("fields that can be seen", seen.toString(),
                "[public static final int NONE, public static final int TOO_LARGE]");
    }

    private static void methods() {
        TreeSet<String> seen = new TreeSet<>();
        TreeSet<String> names = new TreeSet<>();
        for (Method method : EntryTree.class.getDeclaredMethods()) {
            if (!Modifier.isPrivate(method.getModifiers())) {
                seen.add(text(method));
                names.add(method.getName());
                Run.same(method.getName() + " is public", Modifier.toString(method.getModifiers()), "public");
            }
        }
        Run.same("methods", seen.toString(), new TreeSet<>(FACE).toString());
        for (Method method : EntryTree.class.getDeclaredMethods()) {
            if (Modifier.isPrivate(method.getModifiers())) {
                Run.same("private " + method.getName() + " bears a public name",
                        names.contains(method.getName()), false);
            }
        }
        Constructor<?>[] constructors = EntryTree.class.getDeclaredConstructors();
        Run.same("constructors", constructors.length, 1);
        Run.same("constructor", constructors[0].toString(), "public EntryTree()");
        Run.same("class", Modifier.toString(EntryTree.class.getModifiers()), "public final");
    }

    private static String text(Method method) {
        StringBuilder text = new StringBuilder();
        text.append(method.getReturnType()).append(' ').append(method.getName()).append('(');
        for (Class<?> type : method.getParameterTypes()) {
            text.append(text.charAt(text.length() - 1) == '(' ? "" : ",").append(type);
        }
        text.append(')');
        for (Class<?> type : method.getExceptionTypes()) {
            text.append(' ').append(type.getSimpleName());
        }
        return text.toString();
    }

    private static void nestedClasses() {
        Class<?>[] nested = EntryTree.class.getDeclaredClasses();
        Run.same("few classes", nested.length <= 11, true);
        for (Class<?> type : nested) {
            int modifiers = type.getModifiers();
            Run.same(type + " is hidden and static",
                    Modifier.isStatic(modifiers) && !Modifier.isPublic(modifiers) && !Modifier.isProtected(modifiers),
                    true);
            int fields = 0;
            for (Field field : type.getDeclaredFields()) {
                fields += Modifier.isStatic(field.getModifiers()) ? 0 : 1;
            }
            Run.same(type + " has few fields", fields <= 20, true);
            for (Method method : type.getDeclaredMethods()) {
                Run.same(type + "." + method.getName() + " takes few parameters",
                        method.getParameterCount() <= 7, true);
            }
        }
    }

    private static void source() throws IOException {
        String source = Files.readString(Path.of("src/main/java/EntryTree.java"));
        for (String word : List.of("->", "::", "finally", "synchronized", "assert ", "Exact(", "getMessage",
                "RuntimeException", "catch (IndexOutOfBounds", "catch (Array", "catch (NullPointer",
                "catch (Arithmetic", "catch (ClassCast", "catch (NegativeArray", "catch (Exception",
                "catch (Throwable", "instanceof", "static {", "package ")) {
            Run.same("the source has " + word, source.contains(word), false);
        }
        Run.same("imports", source.lines().filter(line -> line.startsWith("import ")).toList().toString(),
                "[import java.util.Arrays;]");
        int from = -1;
        List<String> lines = source.lines().toList();
        for (int i = 0; i < lines.size(); i++) {
            String line = lines.get(i);
            if (line.matches(" {4}( {4})?[a-zA-Z].*\\) ?\\{") || line.matches(" {4}( {4})?[a-zA-Z].*\\($")) {
                from = i;
            } else if (line.matches(" {4}( {4})?\\}") && from >= 0) {
                Run.same("the method at line " + (from + 1) + " is short", i - from <= 60, true);
                from = -1;
            }
        }
    }

    /** One room has 7.3 million elements for all that a run makes; calls on the object must add nothing. */
    private static void room() {
        EntryTree x = new EntryTree();
        long made = elements(x);
        Run.same("a new object's elements are few: " + made, made < 200000, true);
        x.unit(1);
        for (int i = 0; i < 200; i++) {
            x.entry(0, 1 + i);
            x.number(i, 1, 13, i);
        }
        x.write();
        x.read();
        x.count(3);
        Run.same("calls add elements", elements(x) > made, false);
    }

    private static long elements(Object from) {
        Map<Object, Boolean> seen = new IdentityHashMap<>();
        Deque<Object> open = new ArrayDeque<>(List.of(from));
        long sum = 0;
        while (!open.isEmpty()) {
            Object next = open.pop();
            if (seen.put(next, true) != null) {
                continue;
            }
            if (next.getClass().isArray()) {
                sum += java.lang.reflect.Array.getLength(next);
                continue;
            }
            for (Field field : next.getClass().getDeclaredFields()) {
                if (Modifier.isStatic(field.getModifiers())) {
                    continue;
                }
                sum++;
                if (!field.getType().isPrimitive()) {
                    open.push(get(field, next));
                }
            }
        }
        return sum;
    }

    private static Object get(Field field, Object of) {
        try {
            field.setAccessible(true);
            return field.get(of);
        } catch (IllegalAccessException e) {
            throw new AssertionError(e);
        }
    }
}
