import java.util.Arrays;

/** The sentences of "2 WRITTEN". */
public final class SentencesOfWrittenTest extends Sentences {
    private static final String WRITTEN = "2 WRITTEN";
    private static final String LIMITS = "at most 24000, 8000, 8000 bytes (else TOO_LARGE).";

    public static void main(String[] args) {
        tell();
        testAll();
    }

    static void tell() {
        tellSections();
        tellShapes();
        tellTexts();
        tellUnits();
        tellPlaces();
    }

    private static void tellSections() {
        sentence(WRITTEN, "three SECTIONS, 0 the ENTRIES, 1 the SHAPES, 2 the TEXTS", () -> {
            Run x = rooted();
            x.tape("t");
            x.due(1, "bytes", 0, 9, 14);
            x.due(16 + 8 + 2, "write");
            x.dueSection(0, unit(0, 1, 0, 0, 0, 0));
            x.dueSection(1, 1, 1, 0, 9, 14, 0, 0, 0);
            x.dueSection(2, 't', 0);
            x.due(OUT_OF_BOUNDS, "size", 3);
        });
        longSentence(WRITTEN, LIMITS, "entries of 24000 and of 24001 bytes", SentencesOfWrittenTest::entriesLimit);
        sentence(WRITTEN, LIMITS, "shapes of 8000 and of 8001 bytes", SentencesOfWrittenTest::shapesLimit);
        sentence(WRITTEN, LIMITS, "texts of 8000 and of 8001 bytes", SentencesOfWrittenTest::textsLimit);
    }

    /** No 512 calls bring so many bytes: a feed brings twenty. */
    private static void entriesLimit() {
        Run x = rooted();
        int before = 11 + 1 + 15 + 117 * 203 + 1;
        for (int i = 0; i < 117; i++) {
            if (i % 8 == 0) {
                x.due(1 + i / 8, "entry", 0, 1);
            }
            x.tape("y".repeat(202));
            x.due(1 + i % 8, "bytes", 1 + i / 8, 1 + i % 8, 10);
        }
        x.tape("z".repeat(24000 - before - 1));
        x.due(1, "bytes", 0, 1, 8);
        x.due(24000 + 44, "write");
        x.due(24000, "size", 0);
        x.due(2, "number", 0, 2, 11, 77);
        x.due(EntryTree.TOO_LARGE, "write");
        x.due(24000, "size", 0);
    }

    /** Shapes with numbers from a first one on, with tags of two bytes and eight names of two. */
    private static int[] wideShapes(int first, int last, int firstTag) {
        int[] shapes = {};
        for (int number = first; number <= last; number++) {
            int tag = firstTag + number - first;
            int[] names = {};
            for (int name = 201; name <= 208; name++) {
                names = join(names, row(name & 127 | 128, name >> 7, 25));
            }
            int[] told = number < 128 ? row(number) : row(number & 127 | 128, number >> 7);
            shapes = join(shapes, told, row(tag & 127 | 128, tag >> 7, 0), names, row(0, 0));
        }
        return shapes;
    }

    private static int[] numbers(int first, int last) {
        int[] numbers = {};
        for (int number = first; number <= last; number++) {
            numbers = join(numbers, number < 128 ? row(number) : row(number & 127 | 128, number >> 7));
        }
        return numbers;
    }

    private static void shapesLimit() {
        int entries = 139 + 11 + 1 + 2 * 136 + 1;
        Run x = wideTree(row(9));
        x.due(entries + 8000, "write");
        x.due(8000, "size", 1);
        // A shape that is there is told once, another is too much.
        x.due(264, "entry", 0, 5);
        x.due(264, "count", 2);
        x.due(EntryTree.TOO_LARGE, "write");
        x.due(8000, "size", 1);
        x.due(entries, "size", 0);
        x = wideTree(row(209 & 127 | 128, 1));
        x.due(EntryTree.TOO_LARGE, "write");
    }

    /**
     * Two units with tables of their own, which come to one table of 5 bytes of the roots' shape, 126 shapes of 30
     * bytes, 135 of 31 from number 128 on, one of 28 bytes and a name's, and a 0.
     */
    private static Run wideTree(int[] lastName) {
        int[] root = row(1, 1, 1, 0, 0);
        int[] last = row(137, 1, 5, 0);
        for (int name = 201; name <= 207; name++) {
            last = join(last, row(name & 127 | 128, name >> 7, 25));
        }
        last = join(last, lastName, row(25, 0, 0));
        int[] first = join(root, wideShapes(2, 127, 1000), row(0));
        int[] second = join(root, wideShapes(2, 136, 2000), last, row(0));
        Run x = loaded(join(unit(0, join(row(1), numbers(2, 127), row(0))),
                unit(first.length, join(row(1), numbers(2, 137), row(0)))), join(first, second), NO_TEXTS);
        x.due(264, "read");
        x.due(263, "count", 2);
        return x;
    }

    /** Ends of one text are texts of their own: 33 of them of 256 to 224 bytes with their byte 0, and one of 80. */
    private static void textsLimit() {
        int[] entries = row(1);
        for (int place = 0; place < 33; place++) {
            entries = join(entries, row(2, place, 0, 0, 0));
        }
        entries = join(entries, row(2, 176, 0, 0, 0, 0));
        Run x = loaded(unit(0, entries), row(1, 1, 1, 0, 0, 2, 1, 0, 1, 14, 0, 0, 0), join(times(255, 't'), row(0)));
        x.due(35, "read");
        x.due(34, "count", 3);
        x.due(11 + 1 + 34 * 5 + 1 + 13 + 8000, "write");
        x.due(8000, "size", 2);
        x.due("void", "end", 0);
        x.due(1, "bytes", 0, 9, 14);
        x.due(35, "count", 3);
        x.due(EntryTree.TOO_LARGE, "write");
        x.due(8000, "size", 2);
    }

    private static void tellShapes() {
        String shape = "A SHAPE is a TAG, whether an entry has children (1, 0), and all NAMES and FORMS in order.";
        sentence(WRITTEN, shape, "what makes shapes different", () -> {
            Run x = rooted();
            for (int e = 1; e <= 7; e++) {
                x.due(e, "entry", 0, e == 1 ? 2 : 1);
            }
            x.due(3, "count", 2);
            x.due(1, "number", 2, 4, 11, 1);
            x.due(4, "count", 2);
            x.due(1, "number", 3, 5, 11, 1);
            x.due(5, "count", 2);
            x.due(1, "number", 4, 4, 5, 1);
            x.due(6, "count", 2);
            x.due(1, "number", 5, 4, 11, 1);
            x.due(2, "number", 5, 5, 11, 1);
            x.due(7, "count", 2);
            x.due(1, "number", 6, 5, 11, 1);
            x.due(2, "number", 6, 4, 11, 1);
            x.due(8, "count", 2);
            x.due(8, "entry", 1, 1);
            x.due(8, "count", 2);
            x.due(9, "entry", 0, 2);
            x.due(9, "count", 2);
        });
        sentence(WRITTEN, shape, "lists that begin alike", SentencesOfWrittenTest::listsThatBeginAlike);
        sentence(WRITTEN, shape, "what does not: values, how many children, the unit", () -> {
            Run x = rooted();
            x.due(1, "unit", 1);
            x.due(1, "count", 2);
            x.due(2, "entry", 0, 1);
            x.due(3, "entry", 1, 1);
            x.due(4, "entry", 1, 1);
            x.due(2, "count", 2);
            x.due(1, "number", 2, 4, 11, 1);
            x.due(1, "number", 3, 4, 11, 2);
            x.due(1, "number", 4, 4, 11, 3);
            x.due(2, "count", 2);
            x.answer("write");
            x.dueSection(1, 1, 1, 1, 0, 0, 2, 1, 0, 4, 11, 0, 0, 0);
            x.dueSection(0, join(unit(0, 1, 2, 1, 0), unit(0, 1, 2, 2, 2, 3, 0)));
        });
        sentence(WRITTEN, "The different SHAPES, as they first come (units by their numbers, entries by their places),"
                + " have the numbers 1, 2, ..", () -> {
            Run x = fresh();
            x.due(0, "unit", 9);
            x.due(1, "unit", 8);
            x.due(2, "entry", 1, 7);
            x.due(3, "entry", 0, 6);
            x.due(4, "entry", 0, 7);
            x.due(5, "entry", 3, 4);
            x.answer("write");
            x.dueSection(1, 1, 9, 1, 0, 0, 2, 6, 1, 0, 0, 3, 4, 0, 0, 0, 4, 7, 0, 0, 0, 5, 8, 1, 0, 0, 0);
            x.dueSection(0, join(unit(0, 1, 2, 3, 0, 4, 0), unit(0, 5, 4, 0)));
        });
        String rows = "the ROWS of number and TAG, a byte 1 or 0, the ROWS of NAME and FORM of each attribute,"
                + " two bytes 0.";
        sentence(WRITTEN, rows, "tags and names of one byte and of two", () -> {
            Run x = fresh();
            x.due(0, "unit", 16383);
            x.due(1, "number", 0, 128, 25, 1);
            x.due(2, "number", 0, 127, 11, 1);
            x.due(1, "entry", 0, 128);
            x.due(1, "number", 1, 16383, 12, 1);
            x.due(2, "entry", 0, 127);
            x.answer("write");
            x.dueSection(1, 1, 255, 127, 1, 128, 1, 25, 127, 11, 0, 0, 2, 128, 1, 0, 255, 127, 12, 0, 0,
                    3, 127, 0, 0, 0, 0);
        });
        sentence(WRITTEN, rows, "numbers of one byte and of two", () -> {
            Run x = rooted();
            for (int e = 1; e < 129; e++) {
                x.due(e, "entry", 0, 1);
                x.due(1, "number", e, e, 25, 1);
            }
            x.due(129, "count", 2);
            x.answer("write");
            // The root's 5 bytes; 126 shapes of 7; numbers 128 and 129, the latter's name 128, and a 0.
            x.due(5 + 126 * 7 + 8 + 9 + 1, "size", 1);
            int[] due = {127, 1, 0, 126, 25, 0, 0, 128, 1, 1, 0, 127, 25, 0, 0, 129, 1, 1, 0, 128, 1, 25, 0, 0, 0};
            for (int i = 0; i < due.length; i++) {
                x.due(due[i], "octet", 1, 5 + 125 * 7 + i);
            }
        });
        sentence(WRITTEN, "Behind them a byte 0.", () -> {
            Run x = rooted();
            x.answer("write");
            x.dueSection(1, 1, 1, 0, 0, 0, 0);
            x.due(1, "unit", 2);
            x.answer("write");
            x.dueSection(1, 1, 1, 0, 0, 0, 2, 2, 0, 0, 0, 0);
        });
        sentence(WRITTEN, "(Without a unit: that byte alone.)", () -> {
            Run x = fresh();
            x.loadAll(row(1, 2), row(3, 4, 5), row(6));
            x.due(1, "write");
            x.dueSection(0);
            x.dueSection(1, 0);
            x.dueSection(2);
            x.due(0, "read");
        });
    }

    /** For each of 22 tags the first eight, seven, .. none of eight attributes. */
    private static void listsThatBeginAlike() {
        int[] list = row(1, 25, 2, 25, 3, 25, 4, 25, 5, 25, 6, 25, 7, 25, 8, 25);
        int[] shapes = row(1, 99, 1, 0, 0);
        int[] entries = row(1);
        for (int i = 0; i < 198; i++) {
            int[] number = row(i + 2 & 127 | 128, i + 2 >> 7);
            shapes = join(shapes, number, row(i / 9 + 1, 0), Arrays.copyOf(list, 2 * (8 - i % 9)), row(0, 0));
            entries = join(entries, number);
        }
        Run x = dueRead(199, unit(0, join(entries, row(0))), join(shapes, row(0)));
        x.due(199, "count", 2);
        x.answer("write");
        x.due(199, "read");
        for (int i = 0; i < 198; i += 2) {
            x.due(8 - i % 9, "about", 1 + i, 4);
        }
    }

    private static void text(Run x, int entry, int name, int form, String text) {
        x.tape(text);
        x.due(x.answer("about", entry, 4) + 1, "bytes", entry, name, form);
    }

    private static void tellTexts() {
        String texts = "The different TEXTS of form 14 as they first come, each with a byte 0 behind it.";
        sentence(WRITTEN, texts, "by units and places, not as they were made", () -> {
            Run x = rooted();
            x.due(1, "unit", 1);
            x.due(2, "entry", 0, 1);
            x.due(3, "entry", 0, 1);
            x.due(4, "entry", 2, 1);
            text(x, 1, 1, 14, "u");
            text(x, 4, 1, 14, "d");
            text(x, 3, 2, 14, "c");
            text(x, 3, 1, 14, "b");
            text(x, 0, 1, 14, "r");
            x.answer("write");
            x.dueSection(2, 'r', 0, 'd', 0, 'c', 0, 'b', 0, 'u', 0);
        });
        sentence(WRITTEN, texts, "each kept once, the empty one too, none of another form", () -> {
            Run x = rooted();
            x.due(1, "unit", 1);
            text(x, 0, 1, 14, "ab");
            text(x, 0, 2, 14, "");
            text(x, 0, 3, 14, "b");
            text(x, 0, 4, 8, "e");
            text(x, 1, 1, 14, "");
            text(x, 1, 2, 14, "b");
            text(x, 1, 3, 14, "ab");
            text(x, 1, 4, 10, "f");
            text(x, 1, 5, 14, "a");
            x.due(4, "count", 3);
            x.answer("write");
            x.dueSection(2, 'a', 'b', 0, 0, 'b', 0, 'a', 0);
            x.dueSection(0, join(unit(0, 1, 0, 0, 0, 0, 3, 0, 0, 0, 4, 0, 0, 0, 'e', 0),
                    unit(0, 2, 3, 0, 0, 0, 4, 0, 0, 0, 0, 0, 0, 0, 1, 'f', 6, 0, 0, 0)));
        });
    }

    private static void tellUnits() {
        sentence(WRITTEN, "A UNIT: four bytes, how many follow; two, 4; four, 0 (where its shapes begin); one, 8;"
                + " its ROOT.", () -> {
            Run x = fresh();
            x.due(0, "unit", 1);
            x.tape(times(249, 'x'));
            x.due(1, "bytes", 0, 1, 10);
            x.due(1, "unit", 2);
            x.answer("write");
            int[] first = {2, 1, 0, 0, 4, 0, 0, 0, 0, 0, 8, 1, 249, 'x'};
            for (int i = 0; i < first.length; i++) {
                x.due(first[i], "octet", 0, i);
            }
            int[] second = {8, 0, 0, 0, 4, 0, 0, 0, 0, 0, 8, 2};
            for (int i = 0; i < second.length; i++) {
                x.due(second[i], "octet", 0, 4 + 258 + i);
            }
            x.due(4 + 258 + 12, "size", 0);
        });
        String entry = "An ENTRY: the ROW of its shape's number; its values as told; if it has children: these,"
                + " and a byte 0.";
        sentence(WRITTEN, entry, "values and children", () -> {
            Run x = rooted();
            x.due(1, "entry", 0, 2);
            x.due(2, "entry", 1, 3);
            x.due(3, "entry", 0, 3);
            x.due(1, "number", 0, 1, 11, 200);
            x.due(2, "number", 0, 2, 25, 1);
            x.due(3, "number", 0, 3, 5, 0x201);
            x.due(1, "number", 1, 1, 13, -1);
            x.due(1, "number", 2, 1, 12, 1);
            x.due(1, "number", 3, 1, 12, 0);
            x.answer("write");
            x.dueSection(0, unit(0, 1, 200, 1, 2, 2, 127, 3, 1, 0, 3, 0, 0));
        });
        sentence(WRITTEN, entry, "a number of two bytes", () -> {
            Run x = rooted();
            for (int e = 1; e < 129; e++) {
                x.due(e, "entry", 0, 1 + e);
            }
            x.answer("write");
            int[] due = {127, 128, 1, 129, 1, 0};
            for (int i = 0; i < due.length; i++) {
                x.due(due[i], "octet", 0, 11 + 126 + i);
            }
            x.due(11 + 126 + due.length, "size", 0);
        });
    }

    private static void tellPlaces() {
        sentence(WRITTEN, "PLACES of entries are counted from the unit's first byte.", () -> {
            Run x = rooted();
            x.due(1, "unit", 1);
            x.due(2, "entry", 0, 1);
            x.due(3, "entry", 1, 1);
            x.due(4, "entry", 1, 1);
            x.due(11, "about", 0, 5);
            x.due(12, "about", 2, 5);
            x.due(11, "about", 1, 5);
            x.due(12, "about", 3, 5);
            x.due(13, "about", 4, 5);
        });
        String begin = "Rows of form 21 begin with one byte each; again and again all places are reckoned, and each"
                + " such row gets as many bytes as its place wants now, if that is more than it has; until none does.";
        sentence(WRITTEN, begin, "a place of 127 and of 128", () -> {
            // With one byte in the root's row entry 2 lies at 127, and wants no more, though two would do as well.
            Run x = rooted();
            x.due(1, "entry", 0, 2);
            x.due(2, "entry", 0, 2);
            x.due(1, "reference", 0, 1, 21, 2);
            x.tape(times(112, 't'));
            x.due(1, "bytes", 1, 1, 8);
            x.due(127, "about", 2, 5);
            x.answer("write");
            x.due(127, "octet", 0, 12);
            x.due(2, "octet", 0, 13);
            // One byte more, and the row grows, which moves entry 2 once more.
            x.due(2, "number", 1, 2, 11, 1);
            x.due(14, "about", 1, 5);
            x.due(129, "about", 2, 5);
            x.answer("write");
            x.due(129, "octet", 0, 12);
            x.due(1, "octet", 0, 13);
            x.due(3, "read");
            x.due(2, "value", 0, 0);
        });
        sentence(WRITTEN, begin, "they begin with one byte each time", () -> {
            // Large first; then all is gone, and entry 2 could lie at 127 with one byte, or at 128 with two.
            Run x = rooted();
            for (int length : new int[] {200, 112}) {
                x.due(1, "entry", 0, 2);
                x.due(2, "entry", 0, 2);
                x.due(1, "reference", 0, 1, 21, 2);
                x.tape(times(length, 't'));
                x.due(1, "bytes", 1, 1, 8);
                x.due(length == 112 ? 127 : 216, "about", 2, 5);
                x.due(3, "clear");
                x.due(0, "unit", 1);
            }
        });
        sentence(WRITTEN, begin, "rows that let one another grow", () -> {
            // Of entries 1 to 4 each has a row with the place of the next; with one byte each entry 5 lies at 128.
            Run x = rooted();
            for (int e = 1; e <= 5; e++) {
                x.due(e, "entry", 0, 2);
            }
            x.tape(times(106, 't'));
            x.due(1, "bytes", 0, 1, 8);
            for (int e = 1; e <= 4; e++) {
                x.due(1, "reference", e, 1, 21, e + 1);
            }
            // 11, 1 + 107; entry 1 at 119, then 121, 123, 125, 127: all rows have one byte.
            for (int e = 1; e <= 5; e++) {
                x.due(117 + 2 * e, "about", e, 5);
            }
            // A byte more: entry 5 comes to 128, entry 4's row grows; none other's entry has moved to 128.
            x.due(2, "number", 0, 2, 11, 1);
            int[] places = {120, 122, 124, 126, 129};
            for (int e = 1; e <= 5; e++) {
                x.due(places[e - 1], "about", e, 5);
            }
            // Two more: entry 4 comes to 128, entry 3's row grows too.
            x.due(3, "number", 0, 3, 5, 1);
            places = new int[] {122, 124, 126, 129, 132};
            for (int e = 1; e <= 5; e++) {
                x.due(places[e - 1], "about", e, 5);
            }
            x.answer("write");
            x.due(6, "read");
            for (int e = 1; e <= 4; e++) {
                x.due(e + 1, "value", e, 0);
            }
        });
        longSentence(WRITTEN, begin, "a place of 16383 and of 16384", SentencesOfWrittenTest::threeBytes);
    }

    /** No 512 calls bring so many bytes. Eight children have 64 blocks, and the root's row means the ninth. */
    private static void threeBytes() {
        Run x = rooted();
        for (int e = 1; e <= 9; e++) {
            x.due(e, "entry", 0, 2);
        }
        x.due(1, "reference", 0, 1, 21, 9);
        for (int i = 0; i < 64; i++) {
            x.tape(times(i < 63 ? 255 : 232, 'b'));
            x.due(1 + i % 8, "bytes", 1 + i / 8, 1 + i % 8, 10);
        }
        x.due(16383, "about", 9, 5);
        x.answer("write");
        x.due(255, "octet", 0, 12);
        x.due(127, "octet", 0, 13);
        x.due(2, "octet", 0, 14);
        x.due(2, "number", 0, 2, 11, 7);
        x.due(16385, "about", 9, 5);
        x.answer("write");
        int[] due = {129, 128, 1, 7, 2};
        for (int i = 0; i < due.length; i++) {
            x.due(due[i], "octet", 0, 12 + i);
        }
        x.due(10, "read");
        x.due(9, "value", 0, 0);
    }
}
