import java.util.Arrays;

/** Promises 15 and 16: what read() takes, and each fault's kind, section and place. */
public final class ReadTest extends Octets {
    public static void main(String[] args) {
        right();
        header();
        shapeNumbers();
        shapeTags();
        shapeAttributes();
        shapeNumbersApart();
        shapeLimits();
        rows();
        signedRows();
        entries();
        values();
        texts();
        references();
        units();
        limits();
        lettersLimit();
        order();
        allStays();
        tablesOfUnits();
        Run.finish();
    }

    private static Run loaded(String title, int[] entries, int[] shapes, int[] texts) {
        Run x = new Run(title);
        x.loadAll(entries, shapes, texts);
        return x;
    }

    private static void dueFault(String title, int kind, int section, int place, int[] entries, int[] shapes) {
        Run x = loaded(title, entries, shapes, NO_TEXTS);
        x.dueFault(kind, section, place);
        x.due(0, "count", 0);
    }

    private static Run dueRead(String title, int many, int[] entries, int[] shapes, int[] texts) {
        Run x = loaded(title, entries, shapes, texts);
        x.due(many, "read");
        x.due(0, "fault", 0);
        x.due(0, "fault", 1);
        x.due(many, "count", 0);
        return x;
    }

    private static void right() {
        Run x = dueRead("15 nothing", 0, row(), row(7, 7), row(1));
        x.due(Run.OUT_OF_BOUNDS, "fault", -1);
        x.due(Run.OUT_OF_BOUNDS, "fault", 2);
        x = dueRead("15 one", 1, unit(0, 1), PLAIN, NO_TEXTS);
        x.due(17, "about", 0, 0);
        // The second child's shape says children, and has none at once; numbers 0 have bytes more than need be.
        int[] shapes = row(0x85, 0x80, 0, 2, 1, 0, 0, 7, 3, 0, 0x80, 0, 0x80, 0, 0x80, 0x80, 0);
        x = dueRead("15 tree", 4, unit(0, 5, 7, 5, 0x80, 0x80, 0, 0x87, 0, 0x80, 0), shapes, NO_TEXTS);
        x.due(3, "about", 0, 3);
        x.due(0, "about", 2, 3);
        x.due(2, "child", 0, 1);
        x.due(0, "about", 3, 1);
        x.due(3, "count", 2);
        x.due(14, "about", 3, 5);
        x.answer("write");
        x.dueSection(0, unit(0, 1, 2, 3, 2, 0));
        x.dueSection(1, 1, 2, 1, 0, 0, 2, 3, 0, 0, 0, 3, 2, 0, 0, 0, 0);
    }

    private static void header() {
        dueFault("16 a byte", 1, 0, 1, row(9), PLAIN);
        dueFault("16 three bytes", 1, 0, 3, row(0, 0, 0), PLAIN);
        dueFault("16 follows nothing", 1, 0, 4, row(0, 0, 0, 0), PLAIN);
        dueFault("16 beyond", 2, 0, 0, row(1, 0, 0, 0), PLAIN);
        dueFault("16 far beyond", 2, 0, 0, row(255, 255, 255, 255, 4, 0), PLAIN);
        dueFault("16 beyond by sign", 2, 0, 0, row(0, 0, 0, 128, 4, 0), PLAIN);
        dueFault("16 one of version", 1, 0, 5, row(1, 0, 0, 0, 5, 0), PLAIN);
        dueFault("16 version", 2, 0, 4, row(2, 0, 0, 0, 5, 0), PLAIN);
        dueFault("16 version's second byte", 2, 0, 4, row(2, 0, 0, 0, 4, 1), PLAIN);
        dueFault("16 unit ends before the section", 1, 0, 6, row(2, 0, 0, 0, 4, 0, 0, 0, 0, 0, 8, 1), PLAIN);
        dueFault("16 three of place", 1, 0, 9, row(5, 0, 0, 0, 4, 0, 7, 0, 0), PLAIN);
        dueFault("16 place beyond", 2, 0, 6, row(6, 0, 0, 0, 4, 0, 7, 0, 0, 0), PLAIN);
        dueFault("16 place far beyond", 2, 0, 6, row(6, 0, 0, 0, 4, 0, 0, 0, 0, 255), PLAIN);
        dueFault("16 no address size", 1, 0, 10, row(6, 0, 0, 0, 4, 0, 6, 0, 0, 0), PLAIN);
        dueFault("16 address size", 2, 0, 10, row(7, 0, 0, 0, 4, 0, 6, 0, 0, 0, 4), PLAIN);
        dueFault("16 shapes at the end", 1, 1, 6, unit(6, 1), PLAIN);
        dueFault("16 no root", 1, 0, 11, unit(0), PLAIN);
        dueFault("16 second unit", 2, 0, 16, join(unit(0, 1), row(2, 0, 0, 0, 3, 0)), PLAIN);
        dueFault("16 second unit beyond", 2, 0, 12, join(unit(0, 1), row(8, 0, 0, 0, 4, 0)), PLAIN);
        dueFault("16 second unit's first bytes", 1, 0, 14, join(unit(0, 1), row(8, 0)), PLAIN);
    }

    private static void shapeNumbers() {
        int[] any = unit(0, 1);
        dueFault("16 no shapes", 1, 1, 0, any, row());
        dueFault("16 no end of shapes", 1, 1, 5, any, row(1, 17, 0, 0, 0));
        dueFault("16 told twice", 3, 1, 10, any, row(1, 17, 0, 0, 0, 2, 17, 0, 0, 0, 0x81, 0, 9, 0, 0, 0, 0));
        dueFault("16 too great", 4, 1, 0, any, row(0x80, 0x80, 0x80, 0x80, 8, 17, 0, 0, 0, 0));
        int[] greatest = row(255, 255, 255, 255, 7);
        dueRead("15 greatest number", 1, unit(0, greatest), join(greatest, row(17, 0, 0, 0, 0)), NO_TEXTS);
        dueFault("16 cut number", 1, 1, 1, any, row(0x81));
        dueFault("16 too long number", 4, 1, 0, any, times(10, 0x80));
        dueFault("16 cut long number", 1, 1, 9, any, times(9, 0x80));
        int[] ten = row(0x81, 0x80, 0x80, 0x80, 0x80, 0x80, 0x80, 0x80, 0x80, 0);
        dueRead("15 ten bytes", 1, unit(0, ten), join(ten, row(17, 0, 0, 0, 0)), NO_TEXTS);
        // A table ends where it ends, whatever comes behind it.
        dueRead("15 behind the table", 1, any, join(PLAIN, row(1, 0, 9, 9)), NO_TEXTS);
    }

    private static void shapeTags() {
        int[] any = unit(0, 1);
        dueFault("16 tag 0", 3, 1, 1, any, row(1, 0, 0, 0, 0, 0));
        dueFault("16 tag 16384", 3, 1, 1, any, row(1, 0x80, 0x80, 1, 0, 0, 0, 0));
        dueFault("16 tag above ints", 4, 1, 1, any, row(1, 0x80, 0x80, 0x80, 0x80, 8, 0, 0, 0, 0));
        dueFault("16 no tag", 1, 1, 1, any, row(1));
        dueRead("15 tag 16383", 1, any, row(1, 255, 127, 0, 0, 0, 0), NO_TEXTS).due(16383, "about", 0, 0);
        dueFault("16 children 2", 3, 1, 2, any, row(1, 17, 2, 0, 0, 0));
        dueFault("16 children 128", 3, 1, 2, any, row(1, 17, 128, 0, 0, 0));
        dueFault("16 children missing", 1, 1, 2, any, row(1, 17));
    }

    private static void shapeAttributes() {
        int[] any = unit(0, 1);
        dueFault("16 name 16384", 3, 1, 3, any, row(1, 17, 0, 0x80, 0x80, 1, 255));
        dueFault("16 name above ints", 4, 1, 3, any, row(1, 17, 0, 255, 255, 255, 255, 8, 11, 0, 0, 0));
        dueFault("16 name missing", 1, 1, 3, any, row(1, 17, 0));
        dueFault("16 form missing", 1, 1, 4, any, row(1, 17, 0, 5));
        dueFault("16 form missing of name 0", 1, 1, 4, any, row(1, 17, 0, 0));
        dueFault("16 form above ints", 4, 1, 4, any, row(1, 17, 0, 5, 255, 255, 255, 255, 8, 0, 0, 0));
        dueFault("16 form above ints of name 0", 4, 1, 4, any, row(1, 17, 0, 0, 255, 255, 255, 255, 8, 0, 0, 0));
        dueFault("16 form 0 alone", 3, 1, 4, any, row(1, 17, 0, 5, 0, 0, 0, 0));
        dueFault("16 name 0 alone", 3, 1, 3, any, row(1, 17, 0, 0, 11, 0, 0, 0));
        dueFault("16 name 0 alone, form none", 3, 1, 3, any, row(1, 17, 0, 0x80, 0, 9, 0, 0, 0));
        dueFault("16 told twice", 3, 1, 5, any, row(1, 17, 0, 5, 25, 0x85, 0));
        for (int form = 1; form < 64; form++) {
            boolean is = Arrays.asList(5, 6, 7, 8, 10, 11, 12, 13, 14, 15, 19, 21, 25).contains(form);
            Run x = loaded("16 form " + form, row(7, 0, 0, 0, 4, 0, 0, 0, 0, 0, 8), oneForm(form), NO_TEXTS);
            x.dueFault(is ? 1 : 3, is ? 0 : 1, is ? 11 : 4);
        }
        int[] eight = row(1, 17, 0, 1, 25, 2, 25, 3, 25, 4, 25, 5, 25, 6, 25, 7, 25, 8, 25);
        dueRead("15 eight", 1, any, join(eight, row(0, 0, 0)), NO_TEXTS).due(8, "about", 0, 4);
        dueFault("16 ninth", 3, 1, 19, any, join(eight, row(9)));
        dueFault("16 ninth name 0 alone", 3, 1, 19, any, join(eight, row(0, 25)));
        dueRead("15 the same name in two shapes", 1, any, row(1, 17, 0, 5, 25, 0, 0, 2, 17, 0, 5, 25, 0, 0, 0),
                NO_TEXTS);
    }

    /** Numbers far apart, each of them found, none told twice. */
    private static void shapeNumbersApart() {
        int[] shapes = {};
        int[] inside = row(1);
        for (int i = 0; i < 40; i++) {
            int[] number = i == 0 ? row(1) : row(0x80, 0x80 | i % 64 << 1, i / 64);
            shapes = join(shapes, number, row(20 + i, i == 0 ? 1 : 0, 0, 0));
            inside = i == 0 ? inside : join(inside, number);
        }
        Run x = dueRead("15 numbers apart", 40, unit(0, join(inside, row(0))), join(shapes, row(0)), NO_TEXTS);
        for (int i = 0; i < 40; i++) {
            x.due(20 + i, "about", i, 0);
        }
        dueFault("16 one of them told twice", 3, 1, shapes.length, unit(0, 1), join(shapes, row(1)));
        dueFault("16 another told twice", 3, 1, shapes.length, unit(0, 1), join(shapes, row(0x80, 0x82, 0)));
    }

    private static void shapeLimits() {
        dueRead("15 two hundred shapes", 1, unit(0, 0x80 + 200 % 128, 1), table(200), NO_TEXTS);
        dueFault("16 one more", 3, 1, 1200, unit(0, 1), table(201));
        dueFault("16 one more, cut", 3, 1, 1200, unit(0, 1), Arrays.copyOf(table(201), 1202));
        // Two tables have room for two hundred each.
        int[] both = join(table(200), table(200));
        dueRead("15 two tables", 2, join(unit(0, 1), unit(1201, 1)), both, NO_TEXTS);
    }

    private static Run dueValue(int form, long value, int... octets) {
        Run x = dueRead("15 value of form " + form, 1, unit(0, join(row(1), octets)), oneForm(form), NO_TEXTS);
        x.due(value, "value", 0, 0);
        x.due(form, "attribute", 0, 0, 1);
        x.due(2, "attribute", 0, 0, 0);
        if (form != 8 && form != 10) {
            x.due(0, "attribute", 0, 0, 2);
        }
        return x;
    }

    private static void dueBadValue(int kind, int place, int form, int... octets) {
        dueFault("16 value of form " + form + " " + Arrays.toString(octets), kind, 0, 12 + place,
                unit(0, join(row(1), octets)), oneForm(form));
    }

    private static void rows() {
        dueValue(15, 0, 0);
        dueValue(15, 0, 0x80, 0);
        dueValue(15, 300, 0xac, 2);
        dueValue(15, 300, 0xac, 0x82, 0x80, 0);
        dueValue(15, Long.MAX_VALUE, join(times(8, 255), row(127)));
        dueValue(15, Long.MAX_VALUE, join(times(9, 255), row(0)));
        dueBadValue(4, 0, 15, join(times(9, 255), row(1)));
        dueBadValue(4, 0, 15, join(times(9, 0x80), row(127)));
        dueBadValue(4, 0, 15, join(times(9, 0x80), row(0x80, 0)));
        dueBadValue(1, 9, 15, times(9, 0x80));
        dueBadValue(1, 0, 15);
        dueFault("16 shape's number too long at an entry", 4, 0, 11, unit(0, times(10, 0x81)), PLAIN);
        dueFault("16 shape's number too great at an entry", 4, 0, 11, unit(0, 0x81, 0x80, 0x80, 0x80, 8), PLAIN);
        dueFault("16 shape's number cut at an entry", 1, 0, 12, unit(0, 0x81), PLAIN);
        dueBadValue(4, 0, 21, 0x8b, 0x80, 0x80, 0x80, 8);
        dueBadValue(7, 0, 21, 255, 255, 255, 255, 7);
        dueBadValue(1, 1, 21, 0x8b);
    }

    private static void signedRows() {
        dueValue(13, -1, 127);
        dueValue(13, -1, 255, 127);
        dueValue(13, 127, 255, 0);
        dueValue(13, -64, 64);
        dueValue(13, 64, 0xc0, 0);
        dueValue(13, -128, 0x80, 127);
        dueValue(13, Long.MIN_VALUE, join(times(9, 0x80), row(127)));
        dueValue(13, Long.MAX_VALUE, join(times(9, 255), row(0)));
        dueValue(13, -1, join(times(9, 255), row(127)));
        dueValue(13, -1L << 62, join(times(8, 0x80), row(0x40)));
        dueValue(13, 1L << 62, join(times(8, 0x80), row(0xc0, 0)));
        dueBadValue(4, 0, 13, join(times(9, 255), row(1)));
        dueBadValue(4, 0, 13, join(times(9, 255), row(126)));
        dueBadValue(4, 0, 13, join(times(9, 255), row(255, 127)));
        dueBadValue(4, 0, 13, join(times(9, 128), row(64)));
        dueBadValue(1, 9, 13, times(9, 0x80));
    }

    private static void entries() {
        dueFault("16 root 0", 5, 0, 11, unit(0, 0), PLAIN);
        dueFault("16 root 0 of two bytes", 5, 0, 11, unit(0, 0x80, 0), PLAIN);
        dueFault("16 no such shape", 5, 0, 11, unit(0, 2), PLAIN);
        dueFault("16 bytes behind", 5, 0, 12, unit(0, 1, 0), PLAIN);
        int[] nest = row(1, 17, 1, 0, 0, 2, 18, 0, 0, 0, 0);
        dueFault("16 no end of children", 1, 0, 12, unit(0, 1), nest);
        dueFault("16 no end of inner children", 1, 0, 15, unit(0, 1, 1, 2, 0), nest);
        dueFault("16 child without a shape", 5, 0, 13, unit(0, 1, 2, 3, 0), nest);
        dueFault("16 bytes behind children", 5, 0, 14, unit(0, 1, 2, 0, 1), nest);
        Run x = dueRead("15 nested", 5, unit(0, 1, 1, 2, 0, 2, 1, 0, 0), nest, NO_TEXTS);
        x.due(1, "about", 2, 1);
        x.due(0, "about", 3, 1);
        x.due(4, "child", 0, 2);
        x.due(0, "about", 4, 3);
    }

    private static void values() {
        dueValue(11, 255, 255);
        dueBadValue(1, 0, 11);
        dueValue(5, 0xfffe, 0xfe, 0xff);
        dueBadValue(1, 1, 5, 1);
        dueValue(6, 0xfffffffeL, 0xfe, 0xff, 0xff, 0xff);
        dueBadValue(1, 3, 6, 1, 2, 3);
        dueValue(7, -2, 0xfe, 255, 255, 255, 255, 255, 255, 255);
        dueValue(7, Long.MIN_VALUE, 0, 0, 0, 0, 0, 0, 0, 128);
        dueBadValue(1, 7, 7, 1, 2, 3, 4, 5, 6, 7);
        dueValue(12, 0, 0);
        dueValue(12, 1, 1);
        dueBadValue(6, 0, 12, 2);
        dueBadValue(6, 0, 12, 255);
        dueBadValue(1, 0, 12);
        dueValue(25, 1);
        dueBadValue(5, 0, 25, 1);
        dueBadValue(1, 3, 19, 11, 0, 0);
        dueBadValue(1, 2, 14, 0, 0);
    }

    private static void dueLetters(Run x, String letters) {
        x.due(letters.length(), "attribute", 0, 0, 2);
        for (int i = 0; i < letters.length(); i++) {
            x.due(letters.charAt(i), "letter", 0, 0, i);
        }
        x.due(Run.OUT_OF_BOUNDS, "letter", 0, 0, letters.length());
    }

    private static void texts() {
        dueLetters(dueValue(8, 0, 0), "");
        dueLetters(dueValue(8, 0, 'a', 255, 1, 0), "a\u00ff\u0001");
        dueLetters(dueValue(8, 0, join(times(255, 'x'), row(0))), "x".repeat(255));
        dueBadValue(6, 0, 8, join(times(256, 'x'), row(0)));
        dueBadValue(1, 2, 8, 'a', 'b');
        dueBadValue(1, 0, 8);
        // A text without a byte 0 is one that ends too soon, however long it is.
        dueBadValue(1, 300, 8, times(300, 'x'));
        dueLetters(dueValue(10, 0, 0), "");
        dueLetters(dueValue(10, 0, 3, 0, 255, 0), "\u0000\u00ff\u0000");
        dueLetters(dueValue(10, 0, join(row(255), times(255, 7))), "\u0007".repeat(255));
        dueBadValue(1, 0, 10);
        dueBadValue(1, 3, 10, 3, 1, 1);
        keptTexts();
    }

    private static void keptTexts() {
        int[] kept = join(row('a', 'b', 0, 0), times(255, 'y'), row(0), times(256, 'z'), row(0, 'q'));
        String[] texts = {"ab", "b", "", "", "y".repeat(255)};
        for (int place = 0; place < texts.length; place++) {
            dueLetters(dueRead("15 text at " + place, 1, unit(0, 1, place, 0, 0, 0), oneForm(14), kept), texts[place]);
        }
        dueLetters(dueRead("15 text within", 1, unit(0, 1, 5, 1, 0, 0), oneForm(14), kept), "z".repeat(255));
        int[][] wrongs = {{4, 1, 0, 0}, {5, 2, 0, 0}, {6, 2, 0, 0}, {7, 2, 0, 0}, {0, 0, 0, 1}, {255, 255, 255, 255}};
        for (int[] wrong : wrongs) {
            loaded("16 text at " + Arrays.toString(wrong), unit(0, join(row(1), wrong)), oneForm(14), kept)
                    .dueFault(6, 0, 12);
        }
        dueBadValue(6, 0, 14, 0, 0, 0, 0);
        dueLetters(dueRead("15 an empty text first", 1, unit(0, 1, 0, 0, 0, 0), oneForm(14), row(0)), "");
        // What was read stays when the sections change.
        Run x = dueRead("15 texts are kept", 1, unit(0, 1, 0, 0, 0, 0), oneForm(14), kept);
        x.load(2);
        x.load(0);
        dueLetters(x, "ab");
    }

    private static void references() {
        int[] shapes = row(1, 17, 1, 2, 19, 0, 0, 2, 18, 0, 2, 21, 3, 11, 0, 0, 0);
        int[] inside = row(1, 16, 0, 0, 0, 2, 0x91, 0, 5, 0);
        Run x = dueRead("15 references", 2, unit(0, 1, 16, 0, 0, 0, 2, 0x90, 0, 5, 0), shapes, NO_TEXTS);
        x.due(1, "value", 0, 0);
        x.due(1, "value", 1, 0);
        x.due(5, "value", 1, 1);
        dueFault("16 no entry's place", 7, 0, 17, unit(0, inside), shapes);
        dueFault("16 first reference", 7, 0, 12, unit(0, 1, 12, 0, 0, 0, 2, 3, 5, 0), shapes);
        dueFault("16 place 0", 7, 0, 12, unit(0, 1, 0, 0, 0, 0, 2, 11, 5, 0), shapes);
        dueFault("16 place of a closing 0", 7, 0, 17, unit(0, 1, 16, 0, 0, 0, 2, 19, 5, 0), shapes);
        dueFault("16 place of bytes without sign", 7, 0, 12, unit(0, 1, 11, 0, 0, 128, 2, 11, 5, 0), shapes);
        // Places are counted from the unit's first byte, faults from the section's.
        int[] one = unit(0, 1, 16, 0, 0, 0, 2, 11, 5, 0);
        x = dueRead("15 two units", 4, join(one, one), shapes, NO_TEXTS);
        x.due(2, "value", 3, 0);
        x.due(3, "value", 2, 0);
        dueFault("16 other unit", 7, 0, one.length + 12,
                join(one, unit(0, 1, 16 + one.length, 0, 0, 0, 2, 11, 5, 0)), shapes);
    }

    private static void units() {
        int[] one = unit(0, 1);
        Run x = dueRead("15 six units", 6, times(6, one), PLAIN, NO_TEXTS);
        x.due(6, "count", 1);
        x.due(5, "root", 5);
        x.due(5, "about", 5, 2);
        dueFault("16 seventh", 8, 0, 72, times(7, one), PLAIN);
        dueFault("16 seventh before its header", 8, 0, 72, join(times(6, one), row(9)), PLAIN);
    }

    private static void limits() {
        int[] nest = row(1, 17, 1, 0, 0, 2, 18, 0, 0, 0, 3, 18, 0, 2, 11, 0, 0, 0);
        dueRead("15 four hundred", 400, unit(0, join(row(1), times(399, 2), row(0))), nest, NO_TEXTS);
        dueFault("16 the 401st", 8, 0, 11 + 400, unit(0, join(row(1), times(400, 2), row(0))), nest);
        dueFault("16 the 401st before its values", 8, 0, 11 + 400, unit(0, join(row(1), times(399, 2), row(3))), nest);
        dueFault("16 the 401st without a shape", 5, 0, 11 + 400, unit(0, join(row(1), times(399, 2), row(4))), nest);
        dueFault("16 the 401st as a root", 8, 0, 11 + 401 + 11,
                join(unit(0, join(row(1), times(399, 2), row(0))), unit(0, 2)), nest);
        Run x = dueRead("15 thirty deep", 31, unit(0, join(times(30, 1), row(2), times(30, 0))), nest, NO_TEXTS);
        x.due(29, "about", 30, 1);
        dueRead("15 thirty deep, empty children", 31, unit(0, join(times(31, 1), times(31, 0))), nest, NO_TEXTS);
        dueFault("16 deeper", 8, 0, 11 + 31, unit(0, join(times(31, 1), row(2), times(31, 0))), nest);
        dueFault("16 deeper without a shape", 5, 0, 11 + 31, unit(0, join(times(31, 1), row(4))), nest);
        dueFault("16 deeper before its values", 8, 0, 11 + 31, unit(0, join(times(31, 1), row(3))), nest);
    }

    /** Texts of form 14 count at each attribute: 117 times 255, and 165, are 30000. */
    private static void lettersLimit() {
        int[] shapes = row(1, 1, 1, 0, 0, 2, 1, 0, 1, 14, 0, 0, 3, 1, 0, 1, 8, 0, 0, 0);
        int[] texts = join(times(255, 't'), row(0));
        int[] most = join(row(1), times(117, 2, 0, 0, 0, 0), row(2, 90, 0, 0, 0));
        Run x = loaded("15 letters", unit(0, join(most, row(0))), shapes, texts);
        x.due(119, "read");
        x.due(165, "attribute", 118, 0, 2);
        x.tape("z");
        x.due(Run.UNSUPPORTED, "bytes", 0, 9, 8);
        x.load(0, unit(0, join(most, row(3, 'a', 0, 0))));
        x.dueFault(8, 0, 11 + most.length + 1);
        x.load(0, unit(0, join(most, row(3, 0, 0))));
        x.due(120, "read");
        x.due('t', "letter", 118, 0, 164);
        x.due(120, "read");
        x.due('t', "letter", 118, 0, 164);
        // A wrong value is no value that is too much.
        x.load(0, unit(0, join(most, row(2, 0, 1, 0, 0))));
        x.dueFault(6, 0, 11 + most.length + 1);
        x.load(0, unit(0, join(most, row(3, 'a'))));
        x.dueFault(1, 0, 11 + most.length + 2);
        x.load(0, join(unit(0, join(most, row(0))), unit(0, 2, 254, 0, 0, 0)));
        x.dueFault(8, 0, 11 + most.length + 1 + 12);
    }

    /** Which of two wrong things is come to first. */
    private static void order() {
        dueFault("16 header before shapes", 2, 0, 10, row(7, 0, 0, 0, 4, 0, 0, 0, 0, 0, 9), row(0x80));
        dueFault("16 shapes before entries", 3, 1, 6, unit(0, 9), row(1, 17, 0, 0, 0, 2, 0, 0, 0, 0, 0));
        int[] shapes = row(1, 17, 1, 2, 19, 0, 0, 2, 18, 0, 2, 12, 0, 0, 0);
        dueFault("16 entries before references", 6, 0, 17, unit(0, 1, 1, 1, 1, 1, 2, 2, 0), shapes);
        dueFault("16 bytes behind before references", 5, 0, 17, unit(0, 1, 1, 1, 1, 1, 0, 0), shapes);
        dueFault("16 references before the next unit", 7, 0, 12, join(unit(0, 1, 1, 1, 1, 1, 0), row(1)), shapes);
        dueFault("16 the first of two references", 7, 0, 12, unit(0, 1, 1, 1, 1, 1, 1, 1, 1, 1, 1, 0, 0), shapes);
        // The second unit's shapes are come to when the first unit is through.
        dueFault("16 shapes of the second unit", 5, 0, 11, join(unit(0, 9), unit(6, 1)), join(PLAIN, row(1, 0)));
        dueFault("16 shapes of the second unit", 3, 1, 7, join(unit(0, 1), unit(6, 1)), join(PLAIN, row(1, 0)));
    }

    private static void allStays() {
        Run x = new Run("15 all stays");
        x.due(0, "unit", 5);
        x.due(1, "entry", 0, 6);
        x.tape("name");
        x.due(1, "bytes", 1, 3, 14);
        x.due(1, "reference", 0, 9, 21, 1);
        String before = x.picture();
        x.load(1, 1, 17, 1, 2, 8, 3, 19, 0, 0, 0);
        x.load(0, unit(0, 1, 'x', 0, 9, 0, 0, 0, 0));
        x.tape("tape");
        x.dueFault(7, 0, 14);
        Run.same("15 the entries stay", x.picture(), before);
        x.due("void", "end", 4);
        x.due(2, "entry", 1, 7);
        x.due('e', "letter", 1, 0, 3);
        x.due(5, "alter", 0, 14, 12);
        x.dueFault(7, 0, 14);
        x.due(11, "alter", 0, 14, 14);
        x.due(1, "read");
        x.due(0, "fault", 0);
        x.due(0, "fault", 1);
        x.due(1, "count", 0);
        x.due("void", "end", 4);
        // Entries come behind those that were read.
        x.due(1, "entry", 0, 4);
        x.due(2, "unit", 4);
        x.due(2, "count", 1);
        x.due(2, "root", 1);
    }

    private static void tablesOfUnits() {
        int[] shapes = join(PLAIN, row(1, 18, 1, 0, 0, 2, 19, 0, 0, 0, 0));
        Run x = dueRead("15 tables", 5, join(unit(0, 1), unit(6, 1, 2, 0), unit(6, 2), unit(0, 1)), shapes, NO_TEXTS);
        x.due(17, "about", 0, 0);
        x.due(18, "about", 1, 0);
        x.due(19, "about", 2, 0);
        x.due(19, "about", 3, 0);
        x.due(17, "about", 4, 0);
        x.due(3, "count", 2);
        // A shape of the first unit is none of the second's.
        dueFault("16 shape of another table", 5, 0, 12 + 11, join(unit(6, 2), unit(0, 2)), shapes);
        // A table that was right once is read again when the section has changed.
        x.due(17 ^ 1, "alter", 1, 1, 1);
        x.due(5, "read");
        x.due(16, "about", 0, 0);
        x.due(0, "alter", 1, 1, 16);
        x.dueFault(3, 1, 1);
        x.due(17, "alter", 1, 1, 17);
        x.due(5, "read");
        x.due(0, "fault", 0);
        x.due(0, "fault", 1);
        placesAfterReading();
    }

    /** Places are reckoned anew for what was read. */
    private static void placesAfterReading() {
        Run x = loaded("15 places", unit(0, 1, 7, 1, 8, 0, 1, 9, 0, 0), row(1, 17, 1, 2, 11, 0, 0, 0), NO_TEXTS);
        x.due(0, "unit", 1);
        x.due(1, "entry", 0, 1);
        x.due(12, "about", 1, 5);
        x.due(2, "count", 2);
        x.due(3, "read");
        x.due(13, "about", 1, 5);
        x.due(15, "about", 2, 5);
        x.due(2, "count", 2);
    }
}
