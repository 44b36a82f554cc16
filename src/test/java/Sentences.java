import java.util.ArrayList;
import java.util.HashSet;
import java.util.List;
import java.util.Set;

/**
 * Tests that bear the document's own words as their names: the part (a promise, or another part), the sentence
 * or the piece of it that is tested ("[..]" where words are left out), and where one sentence has several tests
 * what this one looks at. A class of such tests extends it and tells them.
 */
abstract class Sentences extends Octets {
    static final String OUT_OF_BOUNDS = Run.OUT_OF_BOUNDS;
    static final String ARGUMENT = Run.ARGUMENT;
    static final String STATE = Run.STATE;
    static final String UNSUPPORTED = Run.UNSUPPORTED;
    /** Nothing is promised beyond so many calls on one object. */
    private static final int MOST_CALLS = 512;

    private static final List<Sentence> TOLD = new ArrayList<>();
    private static final List<Run> RUNS = new ArrayList<>();
    private static String title = "";

    interface Body {
        void run();
    }

    record Sentence(String part, String words, String about, boolean longer, Body body) {
        String title() {
            return part + ", \"" + words + "\"" + (about.isEmpty() ? "" : ", " + about);
        }
    }

    static void sentence(String part, String words, Body body) {
        TOLD.add(new Sentence(part, words, "", false, body));
    }

    static void sentence(String part, String words, String about, Body body) {
        TOLD.add(new Sentence(part, words, about, false, body));
    }

    /** For the few limits that no 512 calls come to. */
    static void longSentence(String part, String words, String about, Body body) {
        TOLD.add(new Sentence(part, words, about, true, body));
    }

    static List<Sentence> told() {
        return TOLD;
    }

    /** A new object, whose calls are reported under the name of the test that goes on. */
    static Run fresh() {
        Run x = new Run(title);
        RUNS.add(x);
        return x;
    }

    static void same(String what, Object got, Object want) {
        Run.same(title + ": " + what, got, want);
    }

    static void testAll() {
        Set<String> titles = new HashSet<>();
        int failed = 0;
        for (Sentence sentence : TOLD) {
            title = sentence.title();
            same("a name of its own", titles.add(title), true);
            if (!holds(sentence)) {
                failed++;
                System.out.println("FAILED: " + title);
            }
        }
        System.out.println(TOLD.size() + " sentences, " + failed + " failed");
        Run.finish();
    }

    private static boolean holds(Sentence sentence) {
        RUNS.clear();
        int before = Run.wrongAnswers();
        try {
            sentence.body().run();
        } catch (RuntimeException e) {
            same("the test", e.toString(), "comes to its end");
        }
        for (Run x : RUNS) {
            same("within 512 calls (" + x.calls() + ")", sentence.longer() || x.calls() <= MOST_CALLS, true);
        }
        return Run.wrongAnswers() == before;
    }

    static Run loaded(int[] entries, int[] shapes, int[] texts) {
        Run x = fresh();
        x.loadAll(entries, shapes, texts);
        return x;
    }

    static Run dueRead(int many, int[] entries, int[] shapes, int[] texts) {
        Run x = loaded(entries, shapes, texts);
        x.due(many, "read");
        x.due(0, "fault", 0);
        x.due(0, "fault", 1);
        x.due(many, "count", 0);
        return x;
    }

    static Run dueRead(int many, int[] entries, int[] shapes) {
        return dueRead(many, entries, shapes, NO_TEXTS);
    }

    static Run dueFault(int kind, int section, int place, int[] entries, int[] shapes, int[] texts) {
        Run x = loaded(entries, shapes, texts);
        x.dueFault(kind, section, place);
        x.due(0, "count", 0);
        return x;
    }

    static Run dueFault(int kind, int section, int place, int[] entries, int[] shapes) {
        return dueFault(kind, section, place, entries, shapes, NO_TEXTS);
    }

    /** A root alone, whose one attribute has these bytes. */
    static Run dueValue(long value, int form, int... octets) {
        Run x = dueRead(1, unit(0, join(row(1), octets)), oneForm(form));
        x.due(value, "value", 0, 0);
        return x;
    }

    /** As dueValue, but wrong at a place that is counted from the value's first byte. */
    static void dueBadValue(int kind, int place, int form, int... octets) {
        dueFault(kind, 0, 12 + place, unit(0, join(row(1), octets)), oneForm(form));
    }

    /** A new object with a root of tag 1. */
    static Run rooted() {
        Run x = fresh();
        x.due(0, "unit", 1);
        return x;
    }

    /** What a call is that must change nothing. */
    static void dueRefused(Run x, String want, String name, long... args) {
        String before = x.picture();
        x.due(want, name, args);
        same(name + " changes the entries", x.picture().equals(before), true);
    }

    /** The bytes behind the unit's header and the root's number, when there is just a root without children. */
    static void dueRootWritten(Run x, int... octets) {
        x.answer("write");
        x.dueSection(0, unit(0, join(row(1), octets)));
    }

    static void dueLetters(Run x, int entry, int k, int... letters) {
        x.due(letters.length, "attribute", entry, k, 2);
        for (int i = 0; i < letters.length; i++) {
            x.due(letters[i], "letter", entry, k, i);
        }
        x.due(OUT_OF_BOUNDS, "letter", entry, k, letters.length);
    }

    /** The tape holds just these bytes; it is used up by being loaded into section 2. */
    static void dueTape(Run x, int... octets) {
        x.due(octets.length, "load", 2);
        x.dueSection(2, octets);
    }

    static int[] letters(String text) {
        return text.chars().toArray();
    }
}
