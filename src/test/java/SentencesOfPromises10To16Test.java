import java.util.Arrays;

/** The sentences of promises 10 to 16: the sections, written, loaded, altered and read. */
public final class SentencesOfPromises10To16Test extends Sentences {
    private static final int[] NO_SECTIONS = {-1, 3, Integer.MIN_VALUE, Integer.MAX_VALUE};

    public static void main(String[] args) {
        tell();
        testAll();
    }

    static void tell() {
        tellWrite();
        tellSizeAndOctet();
        tellLoad();
        tellAlter();
        tellRead();
        tellFault();
    }

    private static void tellWrite() {
        sentence("Promise 10", "The trees are WRITTEN: how many bytes all sections have", () -> {
            Run x = fresh();
            x.due(1, "write");
            x.due(0, "unit", 300);
            x.due(12 + 7, "write");
            x.tape("text");
            x.due(1, "bytes", 0, 3, 14);
            x.due(16 + 9 + 5, "write");
            x.due(16, "size", 0);
            x.due(9, "size", 1);
            x.due(5, "size", 2);
            // What was written before is gone, when less is written.
            x.due(1, "clear");
            x.due(1, "write");
            x.due(0, "size", 0);
            x.due(1, "size", 1);
            x.due(0, "size", 2);
        });
        sentence("Promise 10", "The trees are WRITTEN: how many bytes all sections have", "the trees stay", () -> {
            Run x = rooted();
            x.due(1, "entry", 0, 2);
            x.tape("a");
            x.due(1, "bytes", 1, 3, 14);
            x.due(2, "reference", 1, 4, 21, 0);
            String before = x.picture();
            int size = x.answer("write");
            x.due(size, "write");
            same("the trees", x.picture(), before);
            x.due(2, "read");
            same("the trees, read again", x.picture(), before);
        });
        sentence("Promise 10", "The trees are WRITTEN: how many bytes all sections have", "again and again", () -> {
            Run x = rooted();
            for (int k = 1; k <= 3; k++) {
                x.tape('a' + k, 'c');
                x.due(k, "bytes", 0, k, 14);
                x.due(12 + 4 * k + 6 + 2 * k + 3 * k, "write");
                int[] texts = row('b', 'c', 0, 'c', 'c', 0, 'd', 'c', 0);
                int[] places = row(0, 0, 0, 0, 3, 0, 0, 0, 6, 0, 0, 0);
                x.dueSection(2, Arrays.copyOf(texts, 3 * k));
                x.dueSection(0, unit(0, join(row(1), Arrays.copyOf(places, 4 * k))));
            }
        });
        sentence("Promise 10", "TOO_LARGE: they stay as they were.", () -> {
            int[] entries = row(1);
            for (int place = 0; place < 34; place++) {
                entries = join(entries, row(2, place, 0, 0, 0));
            }
            Run x = loaded(unit(0, join(entries, row(0))), row(1, 1, 1, 0, 0, 2, 1, 0, 1, 14, 0, 0, 0),
                    join(times(255, 't'), row(0)));
            x.due(35, "read");
            x.load(0, 7, 8);
            x.load(1, 9);
            x.load(2, 10, 11, 12);
            x.tape("tape");
            x.due(EntryTree.TOO_LARGE, "write");
            x.dueSection(0, 7, 8);
            x.dueSection(1, 9);
            x.dueSection(2, 10, 11, 12);
            x.due(35, "count", 0);
            x.due(34, "count", 3);
            dueTape(x, letters("tape"));
        });
    }

    private static void tellSizeAndOctet() {
        sentence("Promise 11", "How many bytes a section has.", () -> {
            Run x = fresh();
            x.loadAll(row(1, 2, 3), row(), row(4));
            x.due(3, "size", 0);
            x.due(0, "size", 1);
            x.due(1, "size", 2);
        });
        sentence("Promise 11", "IndexOutOfBoundsException.", () -> {
            Run x = fresh();
            for (int section : NO_SECTIONS) {
                x.due(OUT_OF_BOUNDS, "size", section);
            }
        });
        sentence("Promise 12", "Byte i (0 .. 255) of a section.", () -> {
            Run x = fresh();
            x.loadAll(row(0, 1, 127, 128, 255), row(77), row(200, 3));
            x.due(0, "octet", 0, 0);
            x.due(127, "octet", 0, 2);
            x.due(128, "octet", 0, 3);
            x.due(255, "octet", 0, 4);
            x.due(77, "octet", 1, 0);
            x.due(200, "octet", 2, 0);
            x.due(3, "octet", 2, 1);
        });
        sentence("Promise 12", "IndexOutOfBoundsException: there is none such.", () -> {
            Run x = fresh();
            x.loadAll(row(1, 2, 3), row(4), row(5));
            for (int section : NO_SECTIONS) {
                x.due(OUT_OF_BOUNDS, "octet", section, 0);
            }
            x.due(OUT_OF_BOUNDS, "octet", 0, 3);
            x.due(OUT_OF_BOUNDS, "octet", 1, 1);
            x.due(OUT_OF_BOUNDS, "octet", 2, 1);
            for (int i : new int[] {-1, Integer.MIN_VALUE, Integer.MAX_VALUE}) {
                x.due(OUT_OF_BOUNDS, "octet", 0, i);
            }
            // What lay there before is none of its bytes any more.
            x.load(0);
            x.due(OUT_OF_BOUNDS, "octet", 0, 0);
            x.load(0, 9);
            x.due(OUT_OF_BOUNDS, "octet", 0, 1);
        });
    }

    private static void tellLoad() {
        sentence("Promise 13", "The tape's bytes come to be a section, and it is empty then: how many.", () -> {
            for (int section = 0; section < 3; section++) {
                Run x = fresh();
                x.tape(1, 0, 255);
                x.due(3, "load", section);
                x.due(ARGUMENT, "end", 1);
                x.dueSection(section, 1, 0, 255);
                x.dueSection((section + 1) % 3);
                x.tape(7);
                x.due(1, "load", section);
                x.dueSection(section, 7);
                x.due(0, "load", section);
                x.dueSection(section);
            }
        });
        sentence("Promise 13", "The tape's bytes come to be a section, and it is empty then: how many.",
                "the entries stay", () -> {
            Run x = rooted();
            x.tape("ab");
            x.due(1, "bytes", 0, 3, 14);
            x.answer("write");
            x.due(1, "read");
            for (int section = 0; section < 3; section++) {
                x.load(section, 9);
            }
            dueLetters(x, 0, 0, 'a', 'b');
        });
        sentence("Promise 13", "IndexOutOfBoundsException: there is no such section", () -> {
            Run x = fresh();
            x.tape(1, 2);
            for (int section : NO_SECTIONS) {
                x.due(OUT_OF_BOUNDS, "load", section);
            }
            dueTape(x, 1, 2);
        });
        sentence("Promise 13", "UnsupportedOperationException: they are too many for it (the tape stays).", () -> {
            Run x = fresh();
            x.load(1, 5);
            x.load(2, 6);
            x.tape(join(times(8000, 1), row(9)));
            x.due(UNSUPPORTED, "load", 1);
            x.due(UNSUPPORTED, "load", 2);
            x.due(OUT_OF_BOUNDS, "load", 3);
            x.dueSection(1, 5);
            x.dueSection(2, 6);
            x.due(8001, "load", 0);
            x.due(9, "octet", 0, 8000);
        });
        for (int section = 1; section < 3; section++) {
            int loaded = section;
            sentence("Promise 13", "UnsupportedOperationException: they are too many for it (the tape stays).",
                    "8000 are not for section " + section, () -> {
                Run x = fresh();
                x.tape(join(times(7999, 1), row(9, 9)));
                x.due(UNSUPPORTED, "load", loaded);
                x.due("void", "end", 8000);
                x.due(8000, "load", loaded);
                x.due(8000, "size", loaded);
                x.due(9, "octet", loaded, 7999);
                x.due(OUT_OF_BOUNDS, "octet", loaded, 8000);
            });
        }
    }

    private static void tellAlter() {
        sentence("Promise 14", "Byte i of a section is xored with the lowest byte of a mask: what it is then.", () -> {
            Run x = fresh();
            x.loadAll(row(0x0f, 0x80), row(1), row(2));
            x.due(0xf0, "alter", 0, 0, 0xff);
            x.due(0xf0, "octet", 0, 0);
            x.due(0xf1, "alter", 0, 0, 0xffffff01);
            x.due(0x80, "alter", 0, 1, 0x100);
            x.due(0x7f, "alter", 0, 1, -1);
            x.due(0xff, "alter", 0, 1, 0x80000080);
            x.due(0xff, "alter", 0, 1, 0);
            x.due(0, "alter", 1, 0, 1);
            x.due(3, "alter", 2, 0, 1);
            x.dueSection(0, 0xf1, 0xff);
            x.dueSection(1, 0);
            x.dueSection(2, 3);
        });
        sentence("Promise 14", "IndexOutOfBoundsException.", () -> {
            Run x = fresh();
            x.loadAll(row(1, 2), row(3), row(4));
            for (int section : NO_SECTIONS) {
                x.due(OUT_OF_BOUNDS, "alter", section, 0, 1);
            }
            x.due(OUT_OF_BOUNDS, "alter", 0, 2, 1);
            x.due(OUT_OF_BOUNDS, "alter", 1, 1, 1);
            x.due(OUT_OF_BOUNDS, "alter", 2, 1, 1);
            for (int i : new int[] {-1, Integer.MIN_VALUE, Integer.MAX_VALUE}) {
                x.due(OUT_OF_BOUNDS, "alter", 0, i, 1);
            }
            x.load(1);
            x.due(OUT_OF_BOUNDS, "alter", 1, 0, 1);
            x.dueSection(0, 1, 2);
            x.dueSection(1);
            x.dueSection(2, 4);
        });
    }

    private static void tellRead() {
        sentence("Promise 15", "The sections are READ: how many entries there are,"
                + " in place of those before", () -> {
            Run x = loaded(unit(0, 1, 9, 1, 8, 0, 0), row(1, 17, 1, 2, 11, 0, 0, 0), NO_TEXTS);
            x.due(0, "unit", 1);
            x.due(1, "unit", 1);
            x.tape("gone");
            x.due(1, "bytes", 0, 3, 14);
            x.tape("tape");
            x.due(2, "read");
            x.due(2, "count", 0);
            x.due(1, "count", 1);
            x.due(0, "count", 3);
            x.due(17, "about", 0, 0);
            x.due(9, "value", 0, 0);
            x.due(8, "value", 1, 0);
            x.due(2, "read");
            x.due(2, "count", 0);
            x.dueSection(0, unit(0, 1, 9, 1, 8, 0, 0));
            dueTape(x, letters("tape"));
            x.load(0);
            x.due(0, "read");
            x.due(0, "count", 0);
            x.due(0, "count", 1);
        });
        sentence("Promise 15", "how many entries there are, in place of those before", "their bytes' room too", () -> {
            Run x = SentencesOfTermsTest.fullOfLetters();
            x.due('t', "letter", 118, 0, 164);
            for (int i = 0; i < 2; i++) {
                x.due(119, "read");
                x.due('t', "letter", 118, 0, 164);
                x.due('t', "letter", 1, 0, 254);
            }
            x.due(119, "clear");
            x.due(0, "unit", 1);
            x.tape("by hand");
            x.due(1, "bytes", 0, 1, 8);
            x.due(119, "read");
            x.due('t', "letter", 118, 0, 164);
        });
        sentence("Promise 15", "how many entries there are, in place of those before", "with other attributes", () -> {
            int[] many = row(1, 17, 1, 1, 21, 2, 8, 3, 21, 4, 14, 5, 10, 6, 19, 7, 21, 8, 21, 0, 0, 0);
            int[] one = row(11, 'x', 0, 11, 0, 0, 0, 0, 1, 'y', 11, 0, 0, 0, 11, 11);
            Run x = loaded(unit(0, join(row(1), one, row(1), one, row(1), one, row(0, 0, 0))), many, row('z', 0));
            x.due(3, "read");
            x.due(3, "read");
            x.loadAll(unit(0, 1, 'a', 0, 1, 'b', 0, 0, 1, 'c', 0, 0, 0), row(1, 17, 1, 2, 8, 0, 0, 0), NO_TEXTS);
            for (int i = 0; i < 2; i++) {
                x.due(3, "read");
                x.due(0, "fault", 0);
                x.due(2, "count", 2);
                x.due(0, "count", 3);
                for (int e = 0; e < 3; e++) {
                    x.due(1, "about", e, 4);
                    dueLetters(x, e, 0, 'a' + e);
                }
                x.due(14, "about", 1, 5);
                x.due(17, "about", 2, 5);
            }
        });
        sentence("Promise 15", "-1 less the PLACE of the FAULT", () -> {
            Run x = loaded(row(1, 0, 0, 0), PLAIN, NO_TEXTS);
            x.due(-1, "read");
            x.load(0, 9);
            x.due(-2, "read");
            x.load(0, unit(0, 2));
            x.due(-12, "read");
            x.load(0, join(times(6, unit(0, 1)), row(1)));
            x.due(-73, "read");
        });
        sentence("Promise 15", ": all stays.", () -> {
            Run x = fresh();
            x.due(0, "unit", 5);
            x.due(1, "entry", 0, 6);
            x.tape("name");
            x.due(1, "bytes", 1, 3, 14);
            x.due(1, "reference", 0, 9, 21, 1);
            String before = x.picture();
            // A unit that is right but for the reference, which is looked at last.
            int[] entries = unit(0, 1, 'x', 0, 9, 0, 0, 0, 0);
            x.load(1, 1, 17, 1, 2, 8, 3, 19, 0, 0, 0);
            x.load(0, entries);
            x.load(2, 7, 7);
            x.tape("tape");
            x.due(-15, "read");
            same("the entries", x.picture(), before);
            x.dueSection(0, entries);
            x.dueSection(1, 1, 17, 1, 2, 8, 3, 19, 0, 0, 0);
            x.dueSection(2, 7, 7);
            dueTape(x, letters("tape"));
            x.due(2, "entry", 1, 7);
        });
        sentence("Promise 15", ": all stays.", "what was read before", SentencesOfPromises10To16Test::staysRead);
    }

    /** What was read before stays as well, and so when one read after the other is refused. */
    private static void staysRead() {
        int[] right = unit(0, 1, 'x', 0, 11, 0, 0, 0, 2, 5, 0);
        Run x = loaded(right, row(1, 17, 1, 2, 8, 3, 19, 0, 0, 2, 18, 0, 2, 11, 0, 0, 0), NO_TEXTS);
        x.due(2, "read");
        String before = x.picture();
        x.load(0, unit(0, 1, 'y', 0, 11, 0, 0, 0, 2, 6, 1, 'y', 0, 9, 0, 0, 0, 0, 0));
        for (int i = 0; i < 2; i++) {
            x.dueFault(7, 0, 23);
            same("the entries", x.picture(), before);
        }
        x.load(0, right);
        x.due(2, "read");
        same("the entries", x.picture(), before);
        x.load(0, 9);
        x.dueFault(1, 0, 1);
        same("the entries", x.picture(), before);
    }

    private static void tellFault() {
        sentence("Promise 16", "Of the FAULT of the latest read(): what = 0 its KIND, 1 its SECTION", () -> {
            Run x = loaded(row(9), PLAIN, NO_TEXTS);
            x.due(-2, "read");
            x.due(1, "fault", 0);
            x.due(0, "fault", 1);
            x.load(0, unit(0, 1));
            x.load(1, 1, 0);
            x.due(1, "fault", 0);
            x.due(-2, "read");
            x.due(3, "fault", 0);
            x.due(1, "fault", 1);
            x.due(3, "fault", 0);
        });
        sentence("Promise 16", "0, when there was none.", () -> {
            Run x = fresh();
            x.due(0, "fault", 0);
            x.due(0, "fault", 1);
            x.load(0, unit(0, 1));
            x.load(1, 1, 0);
            x.due(-2, "read");
            x.load(1, PLAIN);
            x.due(1, "read");
            x.due(0, "fault", 0);
            x.due(0, "fault", 1);
        });
        sentence("Promise 16", "IndexOutOfBoundsException: another what.", () -> {
            Run x = loaded(row(9), PLAIN, NO_TEXTS);
            for (int round = 0; round < 2; round++) {
                for (int what : new int[] {-1, 2, Integer.MIN_VALUE, Integer.MAX_VALUE}) {
                    x.due(OUT_OF_BOUNDS, "fault", what);
                }
                x.due(-2, "read");
            }
        });
    }
}
