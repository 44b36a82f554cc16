import java.lang.reflect.InvocationTargetException;
import java.lang.reflect.Method;
import java.util.Arrays;
import java.util.HashMap;
import java.util.Map;

/** Calls on one object by the names of its methods, with the answers that are due. */
final class Run {
    static final String OUT_OF_BOUNDS = "throws.IndexOutOfBoundsException";
    static final String ARGUMENT = "throws.IllegalArgumentException";
    static final String STATE = "throws.IllegalStateException";
    static final String UNSUPPORTED = "throws.UnsupportedOperationException";

    private static final Map<Class<?>, Map<String, Method>> METHODS = new HashMap<>();
    private static int wrong;
    private static int asked;

    private final Object subject;
    private final String title;
    private int calls;

    Run(String title) {
        this(title, new EntryTree());
    }

    Run(String title, Object subject) {
        this.title = title;
        this.subject = subject;
    }

    /** What a call answers: a number, "void", or throws. and the exact class of the exception. */
    String call(String name, long... args) {
        calls++;
        Method method = METHODS.computeIfAbsent(subject.getClass(), Run::methodsOf).get(name);
        Class<?>[] types = method.getParameterTypes();
        Object[] values = new Object[types.length];
        for (int i = 0; i < types.length; i++) {
            if (types[i] == int.class) {
                values[i] = Math.toIntExact(args[i]);
            } else {
                values[i] = args[i];
            }
        }
        try {
            Object answer = method.invoke(subject, values);
            return method.getReturnType() == void.class ? "void" : answer.toString();
        } catch (InvocationTargetException e) {
            return "throws." + e.getCause().getClass().getSimpleName();
        } catch (IllegalAccessException e) {
            throw new AssertionError(e);
        }
    }

    private static Map<String, Method> methodsOf(Class<?> type) {
        Map<String, Method> methods = new HashMap<>();
        for (Method method : type.getDeclaredMethods()) {
            if (java.lang.reflect.Modifier.isPublic(method.getModifiers())) {
                method.setAccessible(true);
                methods.put(method.getName(), method);
            }
        }
        return methods;
    }

    int answer(String name, long... args) {
        return Integer.parseInt(call(name, args));
    }

    void due(long want, String name, long... args) {
        due(Long.toString(want), name, args);
    }

    void due(String want, String name, long... args) {
        same(title + ": " + name + Arrays.toString(args), call(name, args), want);
    }

    static void same(String what, Object got, Object want) {
        asked++;
        if (!got.equals(want)) {
            wrong++;
            if (wrong <= 40) {
                System.out.println(what + " answered " + got + ", due is " + want);
            }
        }
    }

    static boolean anyWrong() {
        return wrong != 0;
    }

    static int wrongAnswers() {
        return wrong;
    }

    /** How many calls were made on the object. */
    int calls() {
        return calls;
    }

    /** Lets the tape hold just these bytes. */
    void tape(int... octets) {
        due("void", "end", 0);
        for (int i = 0; i < octets.length; i += 20) {
            long[] words = new long[5];
            for (int w = 0; w < 5; w++) {
                words[w] = word(octets, i + 4 * w);
            }
            call("feed", words);
        }
        due("void", "end", octets.length);
    }

    private static int word(int[] octets, int from) {
        int word = 0;
        for (int i = from; i < from + 4; i++) {
            word = word << 8 | (i < octets.length ? octets[i] & 255 : 0);
        }
        return word;
    }

    void tape(String text) {
        tape(text.chars().toArray());
    }

    void load(int section, int... octets) {
        tape(octets);
        due(octets.length, "load", section);
    }

    void loadAll(int[] entries, int[] shapes, int[] texts) {
        load(0, entries);
        load(1, shapes);
        load(2, texts);
    }

    int[] section(int section) {
        int[] octets = new int[answer("size", section)];
        for (int i = 0; i < octets.length; i++) {
            octets[i] = answer("octet", section, i);
        }
        return octets;
    }

    void dueSection(int section, int... octets) {
        same(title + ": section " + section, Arrays.toString(section(section)), Arrays.toString(octets));
    }

    /** read() refuses, with this kind, section and place. */
    void dueFault(int kind, int section, int place) {
        due(-1 - place, "read");
        due(kind, "fault", 0);
        due(section, "fault", 1);
    }

    /** All that can be asked of the entries, in one text. */
    String picture() {
        StringBuilder text = new StringBuilder();
        int entries = answer("count", 0);
        for (int what = 0; what < 4; what++) {
            text.append(call("count", what)).append(' ');
        }
        for (int u = 0; u <= answer("count", 1); u++) {
            text.append(" root ").append(call("root", u));
        }
        for (int e = 0; e < entries; e++) {
            pictureEntry(text, e);
        }
        return text.toString();
    }

    private void pictureEntry(StringBuilder text, int e) {
        text.append("\n").append(e).append(':');
        for (int what = 0; what <= 5; what++) {
            text.append(' ').append(call("about", e, what));
        }
        for (int k = 0; k <= answer("about", e, 3); k++) {
            text.append(" child ").append(call("child", e, k));
        }
        for (int k = 0; k < answer("about", e, 4); k++) {
            text.append(" [");
            for (int what = 0; what < 3; what++) {
                text.append(call("attribute", e, k, what)).append(' ');
            }
            text.append(call("value", e, k));
            for (int i = 0; i < answer("attribute", e, k, 2); i++) {
                text.append(' ').append(call("letter", e, k, i));
            }
            text.append(']');
        }
    }

    static void finish() {
        System.out.println(asked + " answers, " + wrong + " not as due");
        if (wrong != 0) {
            System.exit(1);
        }
    }
}
