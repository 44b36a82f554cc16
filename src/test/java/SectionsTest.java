import java.util.Arrays;

/** Promises 10 to 14, and the places of promise 18: what is written, and the sections' bytes. */
public final class SectionsTest {
    public static void main(String[] args) {
        nothing();
        oneEntry();
        children();
        orderOfPlaces();
        everyForm();
        rows();
        shapes();
        texts();
        growingRows();
        tooLargeEntries();
        tooLargeShapes();
        tooLargeTexts();
        sizeAndOctet();
        load();
        alter();
        Run.finish();
    }

    private static void nothing() {
        Run x = new Run("10 without a unit");
        x.load(0, 1, 2);
        x.load(2, 3);
        x.due(1, "write");
        x.dueSection(0);
        x.dueSection(1, 0);
        x.dueSection(2);
    }

    private static void oneEntry() {
        Run x = new Run("10 one entry");
        x.due(0, "unit", 300);
        x.due(19, "write");
        x.dueSection(0, 8, 0, 0, 0, 4, 0, 0, 0, 0, 0, 8, 1);
        x.dueSection(1, 1, 0xac, 2, 0, 0, 0, 0);
        x.dueSection(2);
        x.due(11, "about", 0, 5);
    }

    private static void children() {
        Run x = new Run("10 children");
        x.due(0, "unit", 1);
        x.due(1, "entry", 0, 2);
        x.due(2, "entry", 1, 2);
        x.due(3, "entry", 0, 2);
        x.due(4, "unit", 2);
        x.due(29 + 16, "write");
        x.dueSection(0, 13, 0, 0, 0, 4, 0, 0, 0, 0, 0, 8, 1, 2, 3, 0, 3, 0,
                8, 0, 0, 0, 4, 0, 0, 0, 0, 0, 8, 3);
        x.dueSection(1, 1, 1, 1, 0, 0, 2, 2, 1, 0, 0, 3, 2, 0, 0, 0, 0);
        x.due(13, "about", 2, 5);
        x.due(15, "about", 3, 5);
        x.due(11, "about", 4, 5);
    }

    /** Entries are numbered as they are made, but shapes and texts come by places. */
    private static void orderOfPlaces() {
        Run x = new Run("10 order");
        x.due(0, "unit", 9);
        x.due(1, "unit", 8);
        x.due(2, "entry", 1, 7);
        x.due(3, "entry", 0, 6);
        x.due(4, "entry", 0, 5);
        x.due(5, "entry", 3, 4);
        x.tape("two");
        x.due(1, "bytes", 2, 3, 14);
        x.tape("four");
        x.due(1, "bytes", 4, 3, 14);
        x.tape("five");
        x.due(1, "bytes", 5, 3, 14);
        x.answer("write");
        x.dueSection(1, 1, 9, 1, 0, 0, 2, 6, 1, 0, 0, 3, 4, 0, 3, 14, 0, 0, 4, 5, 0, 3, 14, 0, 0,
                5, 8, 1, 0, 0, 6, 7, 0, 3, 14, 0, 0, 0);
        x.dueSection(2, 'f', 'i', 'v', 'e', 0, 'f', 'o', 'u', 'r', 0, 't', 'w', 'o', 0);
        x.dueSection(0, 21, 0, 0, 0, 4, 0, 0, 0, 0, 0, 8, 1, 2, 3, 0, 0, 0, 0, 0, 4, 5, 0, 0, 0, 0,
                14, 0, 0, 0, 4, 0, 0, 0, 0, 0, 8, 5, 6, 10, 0, 0, 0, 0);
        x.due(6, "read");
        x.due(6, "about", 1, 0);
        x.due(4, "about", 2, 0);
        x.due(4, "root", 1);
    }

    private static void everyForm() {
        Run x = new Run("10 forms");
        x.due(0, "unit", 1);
        x.due(1, "entry", 0, 2);
        x.due(1, "number", 0, 1, 11, 200);
        x.due(2, "number", 0, 2, 5, 0x1234);
        x.due(3, "number", 0, 3, 6, 0xfedcba98L);
        x.due(4, "number", 0, 4, 7, 0xfedcba9876543210L);
        x.due(5, "number", 0, 5, 13, -65);
        x.due(6, "number", 0, 6, 15, 300);
        x.due(7, "number", 0, 7, 12, 1);
        x.due(8, "number", 0, 8, 25, 1);
        x.tape("hi");
        x.due(1, "bytes", 1, 1, 8);
        x.tape("yo");
        x.due(2, "bytes", 1, 2, 14);
        x.tape(0, 7);
        x.due(3, "bytes", 1, 3, 10);
        x.due(4, "reference", 1, 4, 19, 1);
        x.due(5, "reference", 1, 5, 21, 0);
        x.answer("write");
        x.dueSection(0, 45, 0, 0, 0, 4, 0, 0, 0, 0, 0, 8,
                1, 200, 0x34, 0x12, 0x98, 0xba, 0xdc, 0xfe, 0x10, 0x32, 0x54, 0x76, 0x98, 0xba, 0xdc, 0xfe,
                0xbf, 0x7f, 0xac, 2, 1,
                2, 'h', 'i', 0, 0, 0, 0, 0, 2, 0, 7, 32, 0, 0, 0, 11, 0);
        x.dueSection(1, 1, 1, 1, 1, 11, 2, 5, 3, 6, 4, 7, 5, 13, 6, 15, 7, 12, 8, 25, 0, 0,
                2, 2, 0, 1, 8, 2, 14, 3, 10, 4, 19, 5, 21, 0, 0, 0);
        x.dueSection(2, 'y', 'o', 0);
        x.due(32, "about", 1, 5);
    }

    private static void rows() {
        dueRow(13, 0, 0);
        dueRow(13, 63, 63);
        dueRow(13, 64, 0xc0, 0);
        dueRow(13, -1, 127);
        dueRow(13, -64, 64);
        dueRow(13, -65, 0xbf, 127);
        dueRow(13, 8191, 0xff, 0x3f);
        dueRow(13, 8192, 0x80, 0xc0, 0);
        dueRow(13, Long.MAX_VALUE, 255, 255, 255, 255, 255, 255, 255, 255, 255, 0);
        dueRow(13, Long.MIN_VALUE, 128, 128, 128, 128, 128, 128, 128, 128, 128, 127);
        dueRow(15, 0, 0);
        dueRow(15, 127, 127);
        dueRow(15, 128, 128, 1);
        dueRow(15, 16383, 255, 127);
        dueRow(15, 16384, 128, 128, 1);
        dueRow(15, Long.MAX_VALUE, 255, 255, 255, 255, 255, 255, 255, 255, 127);
    }

    private static void dueRow(int form, long value, int... row) {
        Run x = new Run("10 row of " + value);
        x.due(0, "unit", 1);
        x.due(1, "number", 0, 1, form, value);
        x.answer("write");
        int[] due = new int[12 + row.length];
        System.arraycopy(new int[] {8 + row.length, 0, 0, 0, 4, 0, 0, 0, 0, 0, 8, 1}, 0, due, 0, 12);
        System.arraycopy(row, 0, due, 12, row.length);
        x.dueSection(0, due);
        x.due(1, "read");
        x.due(value, "value", 0, 0);
    }

    private static void shapes() {
        Run x = new Run("10, 17 shapes");
        x.due(0, "unit", 1);
        for (int e = 1; e <= 6; e++) {
            x.due(e, "entry", 0, 1);
        }
        x.due(2, "count", 2);
        x.due(7, "entry", 1, 1);
        x.due(2, "count", 2);
        x.due(1, "number", 2, 4, 11, 1);
        x.due(1, "number", 3, 4, 11, 2);
        x.due(3, "count", 2);
        x.due(2, "number", 2, 5, 12, 1);
        x.due(4, "count", 2);
        x.due(1, "number", 4, 5, 12, 1);
        x.due(2, "number", 4, 4, 11, 1);
        x.due(5, "count", 2);
        x.due(1, "number", 5, 4, 5, 1);
        x.due(6, "count", 2);
        x.due(8, "unit", 2);
        x.due(7, "count", 2);
        x.due(9, "unit", 1);
        x.due(7, "count", 2);
        x.due(10, "entry", 9, 1);
        x.due(7, "count", 2);
        manyShapes();
        shapesOfManyNames();
        shapesOfManyForms();
    }

    private static void shapesOfManyNames() {
        Run x = new Run("17 shapes of many names");
        x.due(0, "unit", 1);
        for (int e = 1; e < 399; e++) {
            x.due(e, "entry", 0, 1);
            x.due(1, "number", e, 1 + e % 300 * 54, 25, 1);
        }
        x.due(301, "count", 2);
        x.due(399, "entry", 0, 1);
        x.due(302, "count", 2);
    }

    private static void shapesOfManyForms() {
        int[] forms = {5, 6, 7, 11, 12, 13, 15, 25};
        Run x = new Run("17 shapes of many forms");
        x.due(0, "unit", 1);
        for (int i = 0; i < 192; i++) {
            x.due(i + 1, "entry", 0, 1);
            int swap = i / 64;
            x.due(1, "number", i + 1, swap == 1 ? 2 : 1, forms[i % 8], 1);
            x.due(2, "number", i + 1, swap == 1 ? 1 : 2, forms[i / 8 % 8], 1);
        }
        x.due(129, "count", 2);
    }

    /** The 128th shape's number has two bytes, in its table and at each entry. */
    private static void manyShapes() {
        Run x = new Run("10 many shapes");
        x.due(0, "unit", 1);
        for (int e = 1; e < 130; e++) {
            x.due(e, "entry", 0, e + 1);
        }
        x.due(130, "count", 2);
        x.due(11 + 127, "about", 127, 5);
        x.due(11 + 129, "about", 128, 5);
        x.due(11 + 131, "about", 129, 5);
        x.due(11 + 134 + 130 * 5 + 6 + 1, "write");
        x.due(11 + 134, "size", 0);
    }

    private static void texts() {
        Run x = new Run("10, 17 texts");
        x.due(0, "unit", 1);
        x.due(1, "unit", 1);
        String[] texts = {"a", "ab", "", "a", "b", "ab"};
        for (int i = 0; i < texts.length; i++) {
            x.tape(texts[i]);
            x.due(1 + i / 2, "bytes", i % 2, 1 + i, 14);
        }
        x.tape("c");
        x.due(4, "bytes", 1, 9, 8);
        x.tape("c");
        x.due(4, "bytes", 0, 9, 10);
        x.due(4, "count", 3);
        x.answer("write");
        x.dueSection(2, 'a', 0, 0, 'b', 0, 'a', 'b', 0);
        int[] first = textUnit(1, 0, 2, 3, 1, 'c');
        int[] second = textUnit(2, 5, 0, 5, 'c', 0);
        int[] both = Arrays.copyOf(first, first.length + second.length);
        System.arraycopy(second, 0, both, first.length, second.length);
        x.dueSection(0, both);
        manyTexts();
    }

    /** A unit of a shape, three places of texts, and two bytes. */
    private static int[] textUnit(int shape, int a, int b, int c, int d, int e) {
        return new int[] {22, 0, 0, 0, 4, 0, 0, 0, 0, 0, 8, shape, a, 0, 0, 0, b, 0, 0, 0, c, 0, 0, 0, d, e};
    }

    private static void manyTexts() {
        Run x = new Run("17 many texts");
        x.due(0, "unit", 1);
        for (int i = 0; i < 600; i++) {
            if (i % 8 == 0) {
                x.due(1 + i / 8, "entry", 0, 1);
            }
            x.tape(Integer.toString(100 + i % 300));
            x.due(1 + i % 8, "bytes", 1 + i / 8, 1 + i % 8, 14);
        }
        x.due(300, "count", 3);
        x.answer("write");
        x.due(1200, "size", 2);
        x.due(76, "read");
        for (int i = 0; i < 600; i++) {
            String text = Integer.toString(100 + i % 300);
            for (int k = 0; k < 3; k++) {
                x.due(text.charAt(k), "letter", 1 + i / 8, i % 8, k);
            }
        }
    }

    private static void growingRows() {
        Run x = new Run("10, 18 growing rows");
        growFrom(x);
        // Rows begin with one byte each again, however large they were before.
        x.due(3, "clear");
        growFrom(x);
    }

    private static void growFrom(Run x) {
        x.due(0, "unit", 1);
        x.due(1, "entry", 0, 2);
        x.due(2, "entry", 0, 2);
        // With one byte in the row entry 2 lies at 127, and wants no more, though two bytes would do as well.
        x.due(1, "reference", 0, 1, 21, 2);
        x.tape("t".repeat(112));
        x.due(1, "bytes", 1, 1, 8);
        x.due(127, "about", 2, 5);
        // One byte more in entry 1 lets the row grow, which moves entry 2 again.
        x.due(2, "number", 1, 2, 11, 1);
        x.due(14, "about", 1, 5);
        x.due(129, "about", 2, 5);
        x.due(1, "reference", 2, 1, 21, 2);
        x.due(129, "about", 2, 5);
        x.answer("write");
        x.due(0x81, "octet", 0, 12);
        x.due(1, "octet", 0, 13);
        x.due(0x81, "octet", 0, 130);
        x.due(1, "octet", 0, 131);
        x.due(133, "size", 0);
        x.due(3, "read");
        x.due(2, "value", 0, 0);
        x.due(2, "value", 2, 0);
    }

    private static void tooLargeEntries() {
        Run x = new Run("10 entries too large");
        x.due(0, "unit", 1);
        // The header, the root's and 15 children's numbers, 117 blocks of 1 + 202 bytes, and a 0.
        int before = 11 + 1 + 15 + 117 * 203 + 1;
        for (int i = 0; i < 117; i++) {
            if (i % 8 == 0) {
                x.due(1 + i / 8, "entry", 0, 1);
            }
            x.tape("y".repeat(202));
            x.due(1 + i % 8, "bytes", 1 + i / 8, 1 + i % 8, 10);
        }
        x.tape("z".repeat(24000 - before - 1));
        x.due(1, "bytes", 0, 1, 8);
        // Three shapes of 5 bytes and of 1, 8 and 5 names with their forms, and a 0.
        x.due(24000 + 3 * 5 + 2 * (1 + 8 + 5) + 1, "write");
        x.due(24000, "size", 0);
        x.due(24000 - 1 - 5 * 203 - 1, "about", 15, 5);
        x.due(2, "number", 0, 2, 11, 77);
        x.due(-2, "write");
        x.due(24000, "size", 0);
        x.due(24001 - 1 - 5 * 203 - 1, "about", 15, 5);
        x.due(16, "read");
        x.due(1, "about", 0, 4);
        x.due(16, "clear");
        x.due(1, "write");
        x.due(0, "size", 0);
    }

    /** Every shape of many attributes and of a tag and names of two bytes: 30 bytes, and 31 from number 128 on. */
    private static void tooLargeShapes() {
        Run x = new Run("10 shapes too large");
        x.due(0, "unit", 1);
        for (int e = 1; e <= 126 + 135; e++) {
            x.due(e, "entry", 0, 1000 + e);
            addPresents(x, e, 8);
        }
        x.due(262, "entry", 0, 5);
        addPresents(x, 262, 7);
        x.due(8, "number", 262, 9, 25, 1);
        int entries = 11 + 127 + 2 * 136 + 1;
        x.due(entries + 8000, "write");
        x.due(8000, "size", 1);
        x.dueFault(3, 1, 5 + 126 * 30 + 73 * 31);
        x.due(263, "entry", 0, 1001);
        addPresents(x, 263, 8);
        x.due(entries + 1 + 8000, "write");
        x.due(264, "entry", 0, 1);
        x.due(-2, "write");
        x.due(entries + 1, "size", 0);
        x.due(11 + 127 + 2 * 136 + 1, "about", 264, 5);
        x.due(264, "count", 2);
    }

    private static void addPresents(Run x, int e, int many) {
        for (int k = 1; k <= many; k++) {
            x.due(k, "number", e, 200 + k, 25, 1);
        }
    }

    private static void tooLargeTexts() {
        Run x = new Run("10 texts too large");
        x.due(0, "unit", 1);
        for (int i = 0; i < 32; i++) {
            if (i % 8 == 0) {
                x.due(1 + i / 8, "entry", 0, 1);
            }
            x.tape((char) ('A' + i) + "t".repeat(i < 31 ? 254 : 62));
            x.due(1 + i % 8, "bytes", 1 + i / 8, 1 + i % 8, 14);
        }
        int rest = 11 + 1 + 4 + 32 * 4 + 1 + 5 + 21 + 1;
        x.due(rest + 8000, "write");
        x.due(8000, "size", 2);
        x.tape("A" + "t".repeat(254));
        x.due(1, "bytes", 0, 1, 14);
        x.due(rest + 4 + 2 + 8000, "write");
        x.due(2, "bytes", 0, 2, 14);
        x.due(33, "count", 3);
        x.due(-2, "write");
        x.due(8000, "size", 2);
        x.due(5, "read");
        x.due(1, "about", 0, 4);
    }

    private static void sizeAndOctet() {
        Run x = new Run("11, 12 size and octet");
        x.load(0, 10, 20, 255);
        x.load(1, 0);
        x.due(3, "size", 0);
        x.due(1, "size", 1);
        x.due(0, "size", 2);
        x.due(Run.OUT_OF_BOUNDS, "size", -1);
        x.due(Run.OUT_OF_BOUNDS, "size", 3);
        x.due(10, "octet", 0, 0);
        x.due(255, "octet", 0, 2);
        x.due(0, "octet", 1, 0);
        x.due(Run.OUT_OF_BOUNDS, "octet", 0, 3);
        x.due(Run.OUT_OF_BOUNDS, "octet", 0, -1);
        x.due(Run.OUT_OF_BOUNDS, "octet", 2, 0);
        x.due(Run.OUT_OF_BOUNDS, "octet", 3, 0);
        x.due(Run.OUT_OF_BOUNDS, "octet", -1, 0);
        x.load(0);
        x.due(Run.OUT_OF_BOUNDS, "octet", 0, 0);
        x.load(2, 5);
        x.due(Run.OUT_OF_BOUNDS, "octet", 3, 0);
        x.due(Run.OUT_OF_BOUNDS, "octet", -1, 0);
        x.due(Run.OUT_OF_BOUNDS, "alter", 3, 0, 1);
        x.due(5, "octet", 2, 0);
    }

    private static void load() {
        Run x = new Run("13 load");
        x.tape(1, 2, 3);
        x.due(Run.OUT_OF_BOUNDS, "load", -1);
        x.due(Run.OUT_OF_BOUNDS, "load", 3);
        x.due(3, "load", 2);
        x.due(0, "load", 0);
        x.dueSection(2, 1, 2, 3);
        x.tape(9);
        x.due(1, "load", 2);
        x.dueSection(2, 9);
        int[] octets = new int[8001];
        octets[8000] = 7;
        x.tape(octets);
        x.due(Run.UNSUPPORTED, "load", 1);
        x.due(Run.UNSUPPORTED, "load", 2);
        x.due(Run.OUT_OF_BOUNDS, "load", 3);
        x.dueSection(2, 9);
        x.due(8001, "load", 0);
        x.due(7, "octet", 0, 8000);
        x.due(Run.ARGUMENT, "end", 1);
        x.tape(new int[8000]);
        x.due(8000, "load", 1);
        x.tape(new int[8000]);
        x.due(8000, "load", 2);
        x.tape(new int[12000]);
        x.due(12000, "load", 0);
    }

    private static void alter() {
        Run x = new Run("14 alter");
        x.load(1, 0x0f, 0x80);
        x.due(0xf0, "alter", 1, 0, 0xff);
        x.due(0xf0, "octet", 1, 0);
        x.due(0xf1, "alter", 1, 0, 0xffffff01);
        x.due(0x80, "alter", 1, 1, 0x100);
        x.due(0x7f, "alter", 1, 1, -1);
        x.dueSection(1, 0xf1, 0x7f);
        x.due(Run.OUT_OF_BOUNDS, "alter", 1, 2, 0);
        x.due(Run.OUT_OF_BOUNDS, "alter", 1, -1, 0);
        x.due(Run.OUT_OF_BOUNDS, "alter", 0, 0, 0);
        x.due(Run.OUT_OF_BOUNDS, "alter", 3, 0, 0);
        x.due(Run.OUT_OF_BOUNDS, "alter", -1, 0, 0);
        x.dueSection(1, 0xf1, 0x7f);
    }
}
