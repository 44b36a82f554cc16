/** The sentences of promises 17 to 25: what is asked of entries. */
public final class SentencesOfPromises17To25Test extends Sentences {
    private static final int[] NO_ENTRIES = {-1, -2, 6, Integer.MIN_VALUE, Integer.MAX_VALUE};
    private static final int[] NONE_SUCH = {-1, Integer.MIN_VALUE, Integer.MAX_VALUE};

    public static void main(String[] args) {
        tell();
        testAll();
    }

    static void tell() {
        tellCount();
        tellAbout();
        tellPlace();
        tellChild();
        tellRoot();
        tellAttribute();
        tellValue();
        tellLetter();
        tellFind();
        tellFindText();
        tellCovers();
        tellCoversForms();
    }

    /** Entries 0 to 5: root 0 has the children 1, 2 and 5, entry 1 the child 3; root 4 has none. */
    private static Run family() {
        Run x = fresh();
        x.due(0, "unit", 10);
        x.due(1, "entry", 0, 11);
        x.due(2, "entry", 0, 12);
        x.due(3, "entry", 1, 13);
        x.due(4, "unit", 14);
        x.due(5, "entry", 0, 15);
        return x;
    }

    /** The family with six attributes of entry 1. */
    private static Run attributes() {
        Run x = family();
        x.due(1, "number", 1, 100, 6, 4294967295L);
        x.tape("text");
        x.due(2, "bytes", 1, 101, 8);
        x.due(3, "reference", 1, 102, 21, 5);
        x.tape(0, 200);
        x.due(4, "bytes", 1, 103, 10);
        x.tape("kept");
        x.due(5, "bytes", 1, 104, 14);
        x.due(6, "reference", 1, 105, 19, 1);
        return x;
    }

    private static void text(Run x, int entry, int name, int form, String text) {
        x.tape(text);
        x.due(x.answer("about", entry, 4) + 1, "bytes", entry, name, form);
    }

    private static void tellCount() {
        sentence("Promise 17", "How many: what = 0 entries, 1 units", () -> {
            Run x = fresh();
            x.due(0, "count", 0);
            x.due(0, "count", 1);
            x = family();
            x.due(6, "count", 0);
            x.due(2, "count", 1);
        });
        sentence("Promise 17", "2 different SHAPES of all entries", () -> {
            Run x = fresh();
            x.due(0, "count", 2);
            x = family();
            x.due(6, "count", 2);
            x.due(6, "entry", 0, 15);
            x.due(6, "count", 2);
            x.due(7, "unit", 14);
            x.due(6, "count", 2);
            x.due(1, "number", 7, 1, 25, 1);
            x.due(7, "count", 2);
            x.due(8, "entry", 6, 15);
            x.due(8, "count", 2);
        });
        sentence("Promise 17", "2 different SHAPES of all entries", "more than a table that is read may have", () -> {
            Run x = rooted();
            for (int e = 1; e < 400; e++) {
                x.due(e, "entry", 0, e);
            }
            x.due(400, "count", 2);
        });
        sentence("Promise 17", "2 different SHAPES of all entries", "many, each of two entries",
                SentencesOfPromises17To25Test::manyShapes);
        sentence("Promise 17", "3 different TEXTS of form 14.", "many, each of two attributes",
                SentencesOfPromises17To25Test::manyTexts);
        sentence("Promise 17", "3 different TEXTS of form 14.", () -> {
            Run x = family();
            x.due(0, "count", 3);
            text(x, 0, 9, 14, "t");
            text(x, 4, 8, 14, "t");
            text(x, 4, 9, 8, "u");
            text(x, 4, 11, 10, "v");
            x.due(1, "count", 3);
            text(x, 4, 10, 14, "u");
            x.due(2, "count", 3);
            text(x, 5, 1, 14, "");
            x.due(3, "count", 3);
            text(x, 5, 2, 14, "tt");
            x.due(4, "count", 3);
            text(x, 5, 3, 14, "");
            x.due(4, "count", 3);
        });
        sentence("Promise 17", "IndexOutOfBoundsException.", () -> {
            Run x = family();
            x.due(OUT_OF_BOUNDS, "count", 4);
            for (int what : NONE_SUCH) {
                x.due(OUT_OF_BOUNDS, "count", what);
            }
        });
    }

    /** Of 12 tags, with a child and without, and with four lists of attributes; 97 is the children's, 98 the root's. */
    private static void manyShapes() {
        int[][] lists = {{}, {4, 25}, {4, 25, 5, 25}, {5, 25}};
        int[] shapes = {};
        int[] entries = {};
        for (int i = 0; i < 96; i++) {
            boolean hasChild = i / 4 % 2 == 1;
            shapes = join(shapes, row(i + 1, i / 8 + 1, hasChild ? 1 : 0), lists[i % 4], row(0, 0));
            entries = join(entries, row(i + 1), hasChild ? row(97, 0) : row());
        }
        shapes = join(shapes, row(97, 99, 0, 0, 0, 98, 99, 1, 0, 0, 0));
        Run x = dueRead(1 + 2 * (96 + 48), unit(0, join(row(98), entries, entries, row(0))), shapes);
        x.due(98, "count", 2);
        x.answer("write");
        x.due(1 + 2 * (96 + 48), "read");
        x.due(98, "count", 2);
        for (int e = 1; e < 13; e++) {
            int within = (e - 1) % 12;
            boolean isChild = within > 3 && within % 2 == 1;
            x.due(isChild ? 99 : 1, "about", e, 0);
            x.due(within > 3 && !isChild ? 1 : 0, "about", e, 3);
        }
    }

    /** 300 texts of three letters, told by 75 entries with eight attributes each. */
    private static void manyTexts() {
        int[] texts = {};
        int[] entries = row(1);
        for (int i = 0; i < 300; i++) {
            texts = join(texts, letters(Integer.toString(100 + i)), row(0));
        }
        for (int i = 0; i < 600; i++) {
            int place = i % 300 * 4;
            entries = join(entries, i % 8 == 0 ? row(2) : row(), row(place & 255, place >> 8, 0, 0));
        }
        int[] shapes = row(1, 1, 1, 0, 0, 2, 1, 0, 1, 14, 2, 14, 3, 14, 4, 14, 5, 14, 6, 14, 7, 14, 8, 14, 0, 0, 0);
        Run x = dueRead(76, unit(0, join(entries, row(0))), shapes, texts);
        x.due(300, "count", 3);
        x.answer("write");
        x.due(1200, "size", 2);
        x.due(76, "read");
        for (int i = 0; i < 600; i += 7) {
            x.due('0' + i % 300 % 10, "letter", 1 + i / 8, i % 8, 2);
        }
    }

    private static void tellAbout() {
        long[][] due = {{10, -1, 0, 3, 0}, {11, 0, 0, 1, 0}, {12, 0, 0, 0, 0}, {13, 1, 0, 0, 0},
            {14, -1, 1, 0, 0}, {15, 0, 0, 0, 0}};
        String[] whats = {"Of an entry: what = 0 its TAG", "1 the entry whose child it is (NONE of a root)",
            "2 its unit", "3 how many children", "4 how many attributes"};
        for (int what = 0; what < whats.length; what++) {
            int asked = what;
            sentence("Promise 18", whats[what], () -> {
                Run x = family();
                x.due(1, "number", 3, 7, 25, 1);
                for (int e = 0; e < due.length; e++) {
                    x.due(asked == 4 && e == 3 ? 1 : due[e][asked], "about", e, asked);
                }
            });
        }
        sentence("Promise 18", "IndexOutOfBoundsException.", () -> {
            Run x = fresh();
            x.due(OUT_OF_BOUNDS, "about", 0, 0);
            x = family();
            for (int what = 0; what < 6; what++) {
                for (int entry : NO_ENTRIES) {
                    x.due(OUT_OF_BOUNDS, "about", entry, what);
                }
            }
            x.due(OUT_OF_BOUNDS, "about", 0, 6);
            for (int what : NONE_SUCH) {
                x.due(OUT_OF_BOUNDS, "about", 0, what);
            }
        });
    }

    private static void tellPlace() {
        sentence("Promise 18", "5 its PLACE in its unit as it would be WRITTEN", () -> {
            Run x = family();
            int[] places = {11, 12, 15, 13, 11, 16};
            for (int e = 0; e < 6; e++) {
                x.due(places[e], "about", e, 5);
            }
            // Places follow what is made later, whatever was asked or written before.
            x.answer("write");
            x.due(1, "number", 1, 5, 7, 0);
            places = new int[] {11, 12, 23, 21, 11, 24};
            for (int e = 0; e < 6; e++) {
                x.due(places[e], "about", e, 5);
            }
            // Not as the entry was read, with bytes more than need be.
            x.loadAll(unit(0, 129, 0, 130, 128, 0, 2, 0), row(1, 17, 1, 0, 0, 2, 18, 0, 0, 0, 0), NO_TEXTS);
            x.due(3, "read");
            x.due(12, "about", 1, 5);
            x.due(13, "about", 2, 5);
        });
        sentence("Promise 18", "5 its PLACE in its unit as it would be WRITTEN", "after each change", () -> {
            Run x = rooted();
            x.due(1, "entry", 0, 1);
            x.due(12, "about", 1, 5);
            x.due(1, "number", 0, 1, 11, 1);
            x.due(13, "about", 1, 5);
            text(x, 0, 2, 8, "t");
            x.due(15, "about", 1, 5);
            x.due(3, "reference", 0, 3, 19, 0);
            x.due(19, "about", 1, 5);
            x.due(4, "reference", 0, 4, 21, 0);
            x.due(20, "about", 1, 5);
            x.due(2, "entry", 1, 1);
            x.due(21, "about", 2, 5);
            x.due(3, "entry", 0, 1);
            x.due(23, "about", 3, 5);
            x.due(4, "clear");
            x.due(0, "unit", 1);
            x.due(11, "about", 0, 5);
            x.due(1, "unit", 1);
            x.due(11, "about", 1, 5);
            x.due(2, "entry", 0, 1);
            x.due(12, "about", 2, 5);
        });
        sentence("Promise 18", "(also when that is too large).", () -> {
            // Texts that are too large for section 2, by ends of one text.
            int[] entries = row(1);
            for (int place = 0; place < 50; place++) {
                entries = join(entries, row(2, place, 0, 0, 0));
            }
            Run x = loaded(unit(0, join(entries, row(0))), row(1, 1, 1, 0, 0, 2, 1, 0, 1, 14, 0, 0, 0),
                    join(times(255, 't'), row(0)));
            x.due(51, "read");
            x.due(EntryTree.TOO_LARGE, "write");
            x.due(12 + 49 * 5, "about", 50, 5);
            x.due(51, "entry", 0, 1);
            x.due(12 + 50 * 5, "about", 51, 5);
        });
        longSentence("Promise 18", "(also when that is too large).", "a place beyond 24000",
                SentencesOfPromises17To25Test::placeBeyondTheSection);
    }

    /** No 512 calls bring so many bytes. */
    private static void placeBeyondTheSection() {
        Run x = rooted();
        for (int i = 0; i < 100; i++) {
            if (i % 8 == 0) {
                x.due(1 + i / 8, "entry", 0, 1);
            }
            x.tape(times(255, 'y'));
            x.due(1 + i % 8, "bytes", 1 + i / 8, 1 + i % 8, 10);
        }
        x.due(14, "entry", 0, 1);
        x.due(1, "reference", 0, 1, 21, 14);
        x.due(EntryTree.TOO_LARGE, "write");
        x.due(11 + 1 + 3 + 13 + 100 * 256, "about", 14, 5);
    }

    private static void tellChild() {
        sentence("Promise 19", "The k-th child (0 the first) of an entry", () -> {
            Run x = family();
            x.due(1, "child", 0, 0);
            x.due(2, "child", 0, 1);
            x.due(5, "child", 0, 2);
            x.due(3, "child", 1, 0);
        });
        sentence("Promise 19", "NONE.", () -> {
            Run x = family();
            x.due(EntryTree.NONE, "child", 0, 3);
            x.due(EntryTree.NONE, "child", 1, 1);
            x.due(EntryTree.NONE, "child", 4, 0);
            for (int k : NONE_SUCH) {
                x.due(EntryTree.NONE, "child", 0, k);
                x.due(EntryTree.NONE, "child", 4, k);
            }
        });
        sentence("Promise 19", "IndexOutOfBoundsException: there is no such entry.", () -> {
            Run x = family();
            for (int entry : NO_ENTRIES) {
                x.due(OUT_OF_BOUNDS, "child", entry, 0);
                x.due(OUT_OF_BOUNDS, "child", entry, -1);
            }
        });
    }

    private static void tellRoot() {
        sentence("Promise 20", "The root of a unit.", () -> {
            Run x = family();
            x.due(0, "root", 0);
            x.due(4, "root", 1);
        });
        sentence("Promise 20", "IndexOutOfBoundsException.", () -> {
            Run x = fresh();
            x.due(OUT_OF_BOUNDS, "root", 0);
            x = family();
            x.due(OUT_OF_BOUNDS, "root", 2);
            for (int unit : NONE_SUCH) {
                x.due(OUT_OF_BOUNDS, "root", unit);
            }
            x = fresh();
            for (int u = 0; u < 6; u++) {
                x.due(u, "unit", 1);
            }
            x.due(OUT_OF_BOUNDS, "root", 6);
        });
    }

    private static void tellAttribute() {
        long[][] due = {{100, 6, 0}, {101, 8, 4}, {102, 21, 0}, {103, 10, 2}, {104, 14, 4}, {105, 19, 0}};
        String[] whats = {"Of attribute k of an entry: what = 0 its NAME", "1 its FORM",
            "2 how many bytes a TEXT or BLOCK has (0 of others)."};
        for (int what = 0; what < whats.length; what++) {
            int asked = what;
            sentence("Promise 21", whats[what], () -> {
                Run x = attributes();
                for (int k = 0; k < due.length; k++) {
                    x.due(due[k][asked], "attribute", 1, k, asked);
                }
            });
        }
        sentence("Promise 21", "2 how many bytes a TEXT or BLOCK has (0 of others).", "0 and 255", () -> {
            for (int form : new int[] {8, 14, 10}) {
                Run x = rooted();
                x.due(1, "bytes", 0, 1, form);
                x.tape(times(255, 'm'));
                x.due(2, "bytes", 0, 2, form);
                x.due(0, "attribute", 0, 0, 2);
                x.due(255, "attribute", 0, 1, 2);
            }
        });
        sentence("Promise 21", "IndexOutOfBoundsException.", () -> {
            Run x = attributes();
            x.due(OUT_OF_BOUNDS, "attribute", 1, 6, 0);
            x.due(OUT_OF_BOUNDS, "attribute", 1, 0, 3);
            x.due(OUT_OF_BOUNDS, "attribute", 0, 0, 0);
            for (int wrong : NONE_SUCH) {
                x.due(OUT_OF_BOUNDS, "attribute", 1, wrong, 0);
                x.due(OUT_OF_BOUNDS, "attribute", 1, 0, wrong);
            }
            for (int entry : NO_ENTRIES) {
                x.due(OUT_OF_BOUNDS, "attribute", entry, 0, 0);
            }
            for (int k = 7; k <= 8; k++) {
                x.due(k, "number", 1, k, 25, 1);
            }
            x.due(OUT_OF_BOUNDS, "attribute", 1, 8, 0);
            x.due(OUT_OF_BOUNDS, "attribute", 0, 8, 0);
        });
    }

    private static void tellValue() {
        sentence("Promise 22", "Of attribute k: its number", () -> {
            Run x = rooted();
            long[][] numbers = {{7, Long.MIN_VALUE}, {13, -1}, {15, Long.MAX_VALUE}, {6, 4294967295L}, {5, 65535},
                {11, 255}, {12, 0}, {25, 1}};
            for (int k = 0; k < 8; k++) {
                x.due(k + 1, "number", 0, k + 1, numbers[k][0], numbers[k][1]);
            }
            for (int k = 0; k < 8; k++) {
                x.due(numbers[k][1], "value", 0, k);
            }
        });
        sentence("Promise 22", "the number of the entry that a reference means", () -> {
            Run x = attributes();
            x.due(5, "value", 1, 2);
            x.due(1, "value", 1, 5);
            // Entries have other numbers when they were read, and references follow them.
            x.answer("write");
            x.due(6, "read");
            x.due(15, "about", 4, 0);
            x.due(4, "value", 1, 2);
            x.due(1, "value", 1, 5);
        });
        sentence("Promise 22", "0 of TEXTS and BLOCKS.", () -> {
            Run x = attributes();
            x.due(0, "value", 1, 1);
            x.due(0, "value", 1, 3);
            x.due(0, "value", 1, 4);
        });
        sentence("Promise 22", "IndexOutOfBoundsException.", () -> {
            Run x = attributes();
            x.due(OUT_OF_BOUNDS, "value", 1, 6);
            x.due(OUT_OF_BOUNDS, "value", 0, 0);
            x.due(OUT_OF_BOUNDS, "value", 0, 8);
            for (int k : NONE_SUCH) {
                x.due(OUT_OF_BOUNDS, "value", 1, k);
            }
            for (int entry : NO_ENTRIES) {
                x.due(OUT_OF_BOUNDS, "value", entry, 0);
            }
        });
    }

    private static void tellLetter() {
        sentence("Promise 23", "Byte i of a TEXT or BLOCK.", () -> {
            Run x = attributes();
            x.due('t', "letter", 1, 1, 0);
            x.due('e', "letter", 1, 1, 1);
            x.due('x', "letter", 1, 1, 2);
            x.due('t', "letter", 1, 1, 3);
            x.due(0, "letter", 1, 3, 0);
            x.due(200, "letter", 1, 3, 1);
            x.due('k', "letter", 1, 4, 0);
            x.due('t', "letter", 1, 4, 3);
        });
        sentence("Promise 23", "IndexOutOfBoundsException: there is none such.", () -> {
            Run x = attributes();
            x.due(OUT_OF_BOUNDS, "letter", 1, 1, 4);
            x.due(OUT_OF_BOUNDS, "letter", 1, 3, 2);
            x.due(OUT_OF_BOUNDS, "letter", 1, 4, 4);
            x.due(OUT_OF_BOUNDS, "letter", 1, 0, 0);
            x.due(OUT_OF_BOUNDS, "letter", 1, 2, 0);
            x.due(OUT_OF_BOUNDS, "letter", 1, 5, 0);
            x.due(OUT_OF_BOUNDS, "letter", 1, 6, 0);
            x.due(OUT_OF_BOUNDS, "letter", 0, 0, 0);
            x.due(OUT_OF_BOUNDS, "letter", 0, 9, 0);
            for (int wrong : NONE_SUCH) {
                x.due(OUT_OF_BOUNDS, "letter", 1, 1, wrong);
                x.due(OUT_OF_BOUNDS, "letter", 1, wrong, 0);
            }
            for (int entry : NO_ENTRIES) {
                x.due(OUT_OF_BOUNDS, "letter", entry, 1, 0);
            }
        });
    }

    private static void dueFound(Run x, int found, int entry, String text) {
        x.tape(text);
        x.due(found, "find", entry);
        x.due(ARGUMENT, "end", 1);
    }

    private static void tellFind() {
        sentence("Promise 24", "The tape is a name, and is empty then", () -> {
            Run x = family();
            text(x, 1, 3, 8, "one");
            text(x, 2, 3, 8, "");
            dueFound(x, 1, 0, "one");
            dueFound(x, EntryTree.NONE, 0, "two");
            x.due(2, "find", 0);
            dueFound(x, EntryTree.NONE, 0, "one".repeat(100));
            dueFound(x, EntryTree.NONE, EntryTree.NONE, "one");
        });
        sentence("Promise 24", "the first child of an entry", () -> {
            Run x = family();
            text(x, 3, 3, 8, "n");
            text(x, 0, 3, 8, "n");
            dueFound(x, EntryTree.NONE, 0, "n");
            text(x, 5, 3, 8, "n");
            dueFound(x, 5, 0, "n");
            text(x, 2, 3, 14, "n");
            dueFound(x, 2, 0, "n");
            dueFound(x, 3, 1, "n");
            dueFound(x, EntryTree.NONE, 4, "n");
        });
        sentence("Promise 24", "(or, of NONE, the first root)", () -> {
            Run x = fresh();
            dueFound(x, EntryTree.NONE, EntryTree.NONE, "n");
            x = family();
            text(x, 1, 3, 8, "n");
            dueFound(x, EntryTree.NONE, EntryTree.NONE, "n");
            text(x, 4, 3, 14, "n");
            dueFound(x, 4, EntryTree.NONE, "n");
            text(x, 0, 3, 8, "n");
            dueFound(x, 0, EntryTree.NONE, "n");
            dueFound(x, 1, 0, "n");
            // Entry 4 was a root before all was gone, and is none now.
            x.due(6, "clear");
            x.due(0, "unit", 1);
            for (int e = 1; e < 6; e++) {
                x.due(e, "entry", 0, 1);
                text(x, e, 3, 8, "n");
            }
            dueFound(x, EntryTree.NONE, EntryTree.NONE, "n");
        });
        sentence("Promise 24", "IndexOutOfBoundsException: there is no such entry (the tape stays).", () -> {
            Run x = family();
            x.tape("stay");
            for (int entry : new int[] {6, -2, Integer.MIN_VALUE, Integer.MAX_VALUE}) {
                x.due(OUT_OF_BOUNDS, "find", entry);
            }
            dueTape(x, letters("stay"));
            x = fresh();
            x.tape("stay");
            x.due(OUT_OF_BOUNDS, "find", 0);
            dueTape(x, letters("stay"));
        });
    }

    private static void tellFindText() {
        sentence("Promise 24", "that has that as its TEXT of NAME 3", "of form 8 or 14, not of another name", () -> {
            Run x = family();
            text(x, 1, 4, 8, "n");
            text(x, 1, 2, 14, "n");
            dueFound(x, EntryTree.NONE, 0, "n");
            text(x, 5, 1, 8, "m");
            text(x, 5, 3, 14, "n");
            dueFound(x, 5, 0, "n");
            dueFound(x, EntryTree.NONE, 0, "m");
            text(x, 2, 3, 8, "n");
            dueFound(x, 2, 0, "n");
        });
        sentence("Promise 24", "that has that as its TEXT of NAME 3", "not a BLOCK, number or reference", () -> {
            Run x = family();
            text(x, 1, 3, 10, "n");
            x.due(1, "number", 2, 3, 11, 'n');
            x.due(1, "reference", 5, 3, 19, 0);
            dueFound(x, EntryTree.NONE, 0, "n");
            dueFound(x, EntryTree.NONE, 0, "");
            // Of no bytes is a number too, but no text.
            x.due(1, "number", 3, 3, 25, 1);
            dueFound(x, EntryTree.NONE, 1, "");
        });
        sentence("Promise 24", "; NONE.", "all of the bytes, as many and the same", () -> {
            Run x = family();
            text(x, 1, 3, 8, "name");
            dueFound(x, 1, 0, "name");
            for (String other : new String[] {"nam", "names", "Name", "namE", "ame", "", "n"}) {
                dueFound(x, EntryTree.NONE, 0, other);
            }
            x.tape('n', 'a', 'm', 'e', 0);
            x.due(EntryTree.NONE, "find", 0);
            x.tape(times(255, 200));
            x.due(1, "bytes", 2, 3, 14);
            x.tape(times(256, 200));
            x.due(EntryTree.NONE, "find", 0);
            x.tape(times(255, 200));
            x.due(2, "find", 0);
        });
    }

    private static void range(Run x, int entry, int form, long low, long high) {
        int before = x.answer("about", entry, 4);
        x.due(before + 1, "number", entry, 17, form, low);
        x.due(before + 2, "number", entry, 18, form, high);
    }

    private static void tellCovers() {
        sentence("Promise 25", "The entry that covers an address, and lies deepest", () -> {
            Run x = family();
            range(x, 0, 7, 0, 100);
            x.due(0, "covers", 50);
            range(x, 1, 7, 50, 60);
            x.due(1, "covers", 50);
            // Those around it need not cover what it covers.
            range(x, 3, 7, 55, 70);
            x.due(3, "covers", 55);
            x.due(3, "covers", 65);
            x.due(0, "covers", 70);
            x.due(1, "covers", 54);
            range(x, 4, 7, 0, 200);
            x.due(0, "covers", 20);
            x.due(4, "covers", 150);
        });
        sentence("Promise 25", "of several the first by its number", () -> {
            Run x = family();
            range(x, 5, 7, 0, 100);
            x.due(5, "covers", 1);
            range(x, 2, 7, 0, 100);
            x.due(2, "covers", 1);
            range(x, 1, 7, 0, 100);
            x.due(1, "covers", 1);
            x = family();
            range(x, 4, 7, 0, 100);
            range(x, 0, 7, 0, 100);
            x.due(0, "covers", 1);
        });
        sentence("Promise 25", "its number of NAME 17 is not above the address", () -> {
            Run x = rooted();
            range(x, 0, 7, 100, 200);
            x.due(EntryTree.NONE, "covers", 99);
            x.due(0, "covers", 100);
            x.due(0, "covers", 101);
        });
        sentence("Promise 25", "and that of NAME 18 is", () -> {
            Run x = rooted();
            range(x, 0, 7, 100, 200);
            x.due(0, "covers", 199);
            x.due(EntryTree.NONE, "covers", 200);
            x.due(EntryTree.NONE, "covers", 201);
            x = rooted();
            range(x, 0, 7, 5, 5);
            x.due(EntryTree.NONE, "covers", 4);
            x.due(EntryTree.NONE, "covers", 5);
            x.due(EntryTree.NONE, "covers", 6);
        });
        sentence("Promise 25", "(both without sign)", () -> {
            for (int form : new int[] {7, 13}) {
                Run x = rooted();
                range(x, 0, form, Long.MAX_VALUE, -1);
                x.due(EntryTree.NONE, "covers", 0);
                x.due(EntryTree.NONE, "covers", Long.MAX_VALUE - 1);
                x.due(0, "covers", Long.MAX_VALUE);
                x.due(0, "covers", Long.MIN_VALUE);
                x.due(0, "covers", -2);
                x.due(EntryTree.NONE, "covers", -1);
                x = rooted();
                range(x, 0, form, -5, 5);
                x.due(EntryTree.NONE, "covers", 0);
                x.due(EntryTree.NONE, "covers", -5);
                x = rooted();
                range(x, 0, form, 0, -1);
                x.due(0, "covers", 0);
                x.due(0, "covers", -2);
                x.due(EntryTree.NONE, "covers", -1);
            }
        });
        sentence("Promise 25", "; NONE.", () -> {
            Run x = fresh();
            x.due(EntryTree.NONE, "covers", 0);
            x = family();
            x.due(EntryTree.NONE, "covers", 0);
            x.due(1, "number", 0, 17, 7, 0);
            x.due(EntryTree.NONE, "covers", 0);
            x.due(1, "number", 4, 18, 7, 9);
            x.due(EntryTree.NONE, "covers", 0);
            x.due(2, "number", 0, 18, 7, 1);
            x.due(0, "covers", 0);
            x.due(6, "clear");
            x.due(EntryTree.NONE, "covers", 0);
        });
    }

    private static void tellCoversForms() {
        String none = "(Attributes that are TEXTS, BLOCKS, references are none of these.)";
        for (int name = 17; name <= 18; name++) {
            int odd = name;
            sentence("Promise 25", none, "NAME " + name, () -> {
                Run x = rooted();
                for (int e = 1; e <= 5; e++) {
                    x.due(e, "entry", 0, 1);
                    x.due(1, "number", e, 35 - odd, 11, odd == 17 ? 1 : 0);
                }
                x.tape("t");
                x.due(2, "bytes", 1, odd, 8);
                x.tape("t");
                x.due(2, "bytes", 2, odd, 14);
                x.tape("t");
                x.due(2, "bytes", 3, odd, 10);
                x.due(2, "reference", 4, odd, 19, odd == 17 ? 0 : 5);
                x.due(2, "reference", 5, odd, 21, odd == 17 ? 0 : 5);
                x.due(EntryTree.NONE, "covers", 0);
            });
        }
        sentence("Promise 25", "its number of NAME 17", "of whatever form a number is", () -> {
            int[] forms = {5, 6, 7, 11, 13, 15};
            for (int form : forms) {
                Run x = rooted();
                range(x, 0, form, 10, 20);
                x.due(EntryTree.NONE, "covers", 9);
                x.due(0, "covers", 10);
                x.due(0, "covers", 19);
                x.due(EntryTree.NONE, "covers", 20);
            }
            Run x = rooted();
            x.due(1, "number", 0, 18, 25, 1);
            x.due(2, "number", 0, 17, 12, 0);
            x.due(0, "covers", 0);
            x.due(EntryTree.NONE, "covers", 1);
        });
    }
}
