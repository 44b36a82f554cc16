/** The sentences of "What it is" about the tape, and of "Terms". */
public final class SentencesOfTermsTest extends Sentences {
    private static final String TERMS = "Terms";

    public static void main(String[] args) {
        tell();
        testAll();
    }

    static void tell() {
        tellTape();
        tellUnitsAndEntries();
        tellTagsNamesDepth();
        tellNumberForms();
        tellLetterForms();
        tellReferences();
        tellNumbers();
        tellReadRows();
    }

    private static void tellTape() {
        longSentence("What it is", "THE TAPE has at most 12000 bytes", "600 feeds", () -> {
            Run x = fresh();
            for (int n = 20; n <= 12000; n += 20) {
                x.due(n, "feed", 1, 2, 3, 4, 5);
            }
            x.due(STATE, "feed", 1, 2, 3, 4, 5);
            x.due("void", "end", 12000);
        });
        sentence("What it is", "what reads it uses it up.", () -> {
            Run x = rooted();
            x.tape("abc");
            x.due(1, "bytes", 0, 3, 8);
            x.due(ARGUMENT, "end", 1);
            x.tape("abc");
            x.due(3, "load", 1);
            x.due(ARGUMENT, "end", 1);
            x.tape("abc");
            x.due(0, "find", -1);
            x.due(ARGUMENT, "end", 1);
            x.due(20, "feed", 0, 0, 0, 0, 0);
        });
    }

    private static void tellUnitsAndEntries() {
        sentence(TERMS, "There are UNITS, 6 at most, each with a ROOT", () -> {
            Run x = fresh();
            for (int u = 0; u < 6; u++) {
                x.due(u, "unit", 1 + u);
                x.due(u, "root", u);
                x.due(1 + u, "about", u, 0);
            }
            x.due(UNSUPPORTED, "unit", 1);
            x.due(6, "count", 1);
            x.due(OUT_OF_BOUNDS, "root", 6);
            x.loadAll(times(6, unit(0, 1)), PLAIN, NO_TEXTS);
            x.due(6, "read");
            x.due(6, "count", 1);
            x.due(UNSUPPORTED, "unit", 1);
        });
        sentence(TERMS, "There are UNITS, 6 at most, each with a ROOT", "written and read", () -> {
            Run x = fresh();
            for (int u = 0; u < 6; u++) {
                x.due(u, "unit", 1 + u);
            }
            x.due(6, "entry", 5, 9);
            x.due(6 * 12 + 2 + 7 * 5 + 1, "write");
            x.dueSection(0, join(unit(0, 1), unit(0, 2), unit(0, 3), unit(0, 4), unit(0, 5), unit(0, 6, 7, 0)));
            x.due(7, "read");
            for (int u = 0; u < 6; u++) {
                x.due(u, "root", u);
                x.due(1 + u, "about", u, 0);
            }
        });
        sentence(TERMS, "ENTRIES, 400 at most", () -> {
            Run x = rooted();
            for (int e = 1; e < 400; e++) {
                x.due(e, "entry", e / 2, 1);
            }
            x.due(UNSUPPORTED, "entry", 0, 1);
            x.due(UNSUPPORTED, "unit", 1);
            x.due(400, "count", 0);
            x.due(OUT_OF_BOUNDS, "about", 400, 0);
        });
        sentence(TERMS, "are numbered from 0 as they are made (by hand)", () -> {
            Run x = fresh();
            x.due(0, "unit", 10);
            x.due(1, "unit", 11);
            x.due(2, "entry", 0, 12);
            x.due(3, "entry", 1, 13);
            x.due(4, "entry", 2, 14);
            x.due(5, "entry", 0, 15);
            x.due(6, "entry", 2, 16);
            for (int e = 0; e < 7; e++) {
                x.due(10 + e, "about", e, 0);
            }
        });
        sentence(TERMS, "or by their places (when they are read).", () -> {
            Run x = fresh();
            x.due(0, "unit", 10);
            x.due(1, "unit", 11);
            x.due(2, "entry", 0, 12);
            x.due(3, "entry", 1, 13);
            x.due(4, "entry", 0, 14);
            x.due(5, "entry", 2, 15);
            x.answer("write");
            x.due(6, "read");
            int[] tags = {10, 12, 15, 14, 11, 13};
            for (int e = 0; e < 6; e++) {
                x.due(tags[e], "about", e, 0);
            }
        });
    }

    private static void tellTagsNamesDepth() {
        sentence(TERMS, "An ENTRY has a TAG 1 .. 16383", () -> {
            Run x = fresh();
            for (int tag : new int[] {0, -1, 16384, Integer.MIN_VALUE, Integer.MAX_VALUE}) {
                x.due(ARGUMENT, "unit", tag);
            }
            x.due(0, "unit", 1);
            x.due(1, "unit", 16383);
            x.due(1, "about", 0, 0);
            x.due(16383, "about", 1, 0);
            for (int tag : new int[] {0, -1, 16384, Integer.MIN_VALUE, Integer.MAX_VALUE}) {
                x.due(ARGUMENT, "entry", 0, tag);
            }
            x.due(2, "entry", 0, 16383);
            x.due(3, "entry", 0, 1);
        });
        sentence(TERMS, "ENTRIES as its CHILDREN in order", () -> {
            Run x = rooted();
            x.due(1, "entry", 0, 1);
            x.due(2, "entry", 1, 1);
            x.due(3, "entry", 0, 1);
            x.due(4, "entry", 0, 1);
            int[] children = {1, 3, 4, -1};
            for (int k = 0; k < 4; k++) {
                x.due(children[k], "child", 0, k);
            }
        });
        sentence(TERMS, "and ATTRIBUTES in order, 8 at most", () -> {
            Run x = rooted();
            for (int k = 0; k < 8; k++) {
                x.due(k + 1, "number", 0, 20 - k, 11, k);
            }
            x.due(UNSUPPORTED, "number", 0, 1, 11, 0);
            x.due(8, "about", 0, 4);
            for (int k = 0; k < 8; k++) {
                x.due(20 - k, "attribute", 0, k, 0);
                x.due(k, "value", 0, k);
            }
            x.due(OUT_OF_BOUNDS, "attribute", 0, 8, 0);
        });
        sentence(TERMS, "and ATTRIBUTES in order, 8 at most", "in each of several entries, read too", () -> {
            Run x = rooted();
            x.due(1, "entry", 0, 1);
            x.due(2, "entry", 0, 1);
            for (int k = 0; k < 24; k++) {
                x.tape('a' + k);
                x.due(k / 3 + 1, "bytes", k % 3, k + 1, k % 2 == 0 ? 8 : 14);
            }
            x.answer("write");
            for (int round = 0; round < 2; round++) {
                for (int k = 0; k < 24; k++) {
                    x.due(k + 1, "attribute", k % 3, k / 3, 0);
                    x.due('a' + k, "letter", k % 3, k / 3, 0);
                }
                x.due(3, "read");
            }
        });
        sentence(TERMS, "a NAME 1 .. 16383, each once, a FORM, a VALUE.", () -> {
            Run x = rooted();
            for (int name : new int[] {0, -1, 16384, Integer.MIN_VALUE, Integer.MAX_VALUE}) {
                x.due(ARGUMENT, "number", 0, name, 11, 7);
            }
            x.due(1, "number", 0, 1, 11, 7);
            x.due(2, "number", 0, 16383, 5, 8);
            x.due(ARGUMENT, "number", 0, 1, 11, 7);
            x.due(ARGUMENT, "number", 0, 16383, 11, 7);
            x.due(1, "attribute", 0, 0, 0);
            x.due(11, "attribute", 0, 0, 1);
            x.due(7, "value", 0, 0);
            x.due(1, "unit", 1);
            x.due(1, "number", 1, 1, 11, 7);
        });
        sentence(TERMS, "No entry lies within more than 30.", () -> {
            Run x = rooted();
            for (int e = 1; e <= 30; e++) {
                x.due(e, "entry", e - 1, 1);
            }
            x.due(UNSUPPORTED, "entry", 30, 1);
            x.due(31, "entry", 29, 1);
            x.due(UNSUPPORTED, "entry", 31, 1);
            x.due(32, "count", 0);
        });
    }

    private static void dueHeld(int form, long value, int... octets) {
        Run x = rooted();
        x.due(1, "number", 0, 9, form, value);
        x.due(value, "value", 0, 0);
        dueRootWritten(x, octets);
        x.due(1, "read");
        x.due(value, "value", 0, 0);
        x.due(form, "attribute", 0, 0, 1);
    }

    private static void dueNotHeld(int form, long... values) {
        Run x = rooted();
        for (long value : values) {
            x.due(ARGUMENT, "number", 0, 9, form, value);
        }
        x.due(0, "about", 0, 4);
    }

    private static void tellNumberForms() {
        sentence(TERMS, "FORMS: 11 one byte [..] of a number without sign (0 .. 255,", () -> {
            dueHeld(11, 0, 0);
            dueHeld(11, 255, 255);
            dueNotHeld(11, -1, 256, Long.MIN_VALUE, Long.MAX_VALUE);
        });
        sentence(TERMS, "5 two [..] 65535,", () -> {
            dueHeld(5, 0, 0, 0);
            dueHeld(5, 256, 0, 1);
            dueHeld(5, 65535, 255, 255);
            dueNotHeld(5, -1, 65536, Long.MIN_VALUE, Long.MAX_VALUE);
        });
        sentence(TERMS, "6 four [..] 4294967295;", () -> {
            dueHeld(6, 0, 0, 0, 0, 0);
            dueHeld(6, 2147483648L, 0, 0, 0, 128);
            dueHeld(6, 4294967295L, 255, 255, 255, 255);
            dueNotHeld(6, -1, 4294967296L, Long.MIN_VALUE, Long.MAX_VALUE);
        });
        sentence(TERMS, "7 eight [..] any long)", () -> {
            dueHeld(7, 0, 0, 0, 0, 0, 0, 0, 0, 0);
            dueHeld(7, -1, 255, 255, 255, 255, 255, 255, 255, 255);
            dueHeld(7, Long.MAX_VALUE, 255, 255, 255, 255, 255, 255, 255, 127);
            dueHeld(7, Long.MIN_VALUE, 0, 0, 0, 0, 0, 0, 0, 128);
        });
        sentence(TERMS, "13 a long, by its SIGNED row", () -> {
            dueHeld(13, 0, 0);
            dueHeld(13, -1, 127);
            dueHeld(13, Long.MAX_VALUE, 255, 255, 255, 255, 255, 255, 255, 255, 255, 0);
            dueHeld(13, Long.MIN_VALUE, 128, 128, 128, 128, 128, 128, 128, 128, 128, 127);
        });
        sentence(TERMS, "15 a long from 0 on, by its ROW", () -> {
            dueHeld(15, 0, 0);
            dueHeld(15, Long.MAX_VALUE, 255, 255, 255, 255, 255, 255, 255, 255, 127);
            dueNotHeld(15, -1, Long.MIN_VALUE);
        });
        sentence(TERMS, "12 0 or 1, one byte", () -> {
            dueHeld(12, 0, 0);
            dueHeld(12, 1, 1);
            dueNotHeld(12, -1, 2, 256, 257, Long.MAX_VALUE);
        });
        sentence(TERMS, "25 1, no byte", () -> {
            dueHeld(25, 1);
            dueNotHeld(25, 0, 2, -1);
        });
    }

    private static void tellLetterForms() {
        sentence(TERMS, "8 a TEXT, its bytes (1 .. 255) and a byte 0", () -> {
            Run x = rooted();
            x.tape(1, 0, 255);
            x.due(ARGUMENT, "bytes", 0, 9, 8);
            x.tape(1, 'a', 255);
            x.due(1, "bytes", 0, 9, 8);
            x.due(2, "bytes", 0, 10, 8);
            dueRootWritten(x, 1, 'a', 255, 0, 0);
            x.due(1, "read");
            dueLetters(x, 0, 0, 1, 'a', 255);
            dueLetters(x, 0, 1);
        });
        sentence(TERMS, "14 a TEXT, four bytes, its place among the texts", () -> {
            Run x = rooted();
            x.tape(1, 0, 255);
            x.due(ARGUMENT, "bytes", 0, 9, 14);
            x.tape(times(255, 7));
            x.due(1, "bytes", 0, 9, 14);
            x.tape(255, 1);
            x.due(2, "bytes", 0, 10, 14);
            dueRootWritten(x, 0, 0, 0, 0, 0, 1, 0, 0);
            x.due(7, "octet", 2, 254);
            x.due(0, "octet", 2, 255);
            x.due(255, "octet", 2, 256);
            x.due(259, "size", 2);
            x.due(1, "read");
            dueLetters(x, 0, 1, 255, 1);
        });
        sentence(TERMS, "10 a BLOCK, a byte, how many, and so many bytes", () -> {
            Run x = rooted();
            x.tape(0, 255, 0);
            x.due(1, "bytes", 0, 9, 10);
            x.due(2, "bytes", 0, 10, 10);
            dueRootWritten(x, 3, 0, 255, 0, 0);
            x.due(1, "read");
            dueLetters(x, 0, 0, 0, 255, 0);
            dueLetters(x, 0, 1);
        });
        sentence(TERMS, "TEXTS and BLOCKS have 255 bytes at most", () -> {
            for (int form : new int[] {8, 14, 10}) {
                Run x = rooted();
                x.tape(times(256, 'x'));
                x.due(ARGUMENT, "bytes", 0, 9, form);
                x.due("void", "end", 255);
                x.due(1, "bytes", 0, 9, form);
                x.answer("write");
                x.due(1, "read");
                x.due(255, "attribute", 0, 0, 2);
                x.due('x', "letter", 0, 0, 254);
                x.due(OUT_OF_BOUNDS, "letter", 0, 0, 255);
            }
        });
        sentence(TERMS, "all of all attributes together 30000.", () -> {
            Run x = fullOfLetters();
            x.tape("z");
            x.due(UNSUPPORTED, "bytes", 0, 9, 8);
            x.due(UNSUPPORTED, "bytes", 0, 9, 14);
            x.due(UNSUPPORTED, "bytes", 0, 9, 10);
            x.due("void", "end", 0);
            x.due(1, "bytes", 0, 9, 8);
        });
    }

    /** A read tree with 30000 bytes of texts, which are one text of 255 bytes and its last 165, told 118 times. */
    static Run fullOfLetters() {
        Run x = loaded(unit(0, join(row(1), times(117, 2, 0, 0, 0, 0), row(2, 90, 0, 0, 0, 0))),
                row(1, 1, 1, 0, 0, 2, 1, 0, 1, 14, 0, 0, 0), join(times(255, 't'), row(0)));
        x.due(119, "read");
        return x;
    }

    private static void tellReferences() {
        sentence(TERMS, "19, 21 an ENTRY of the same unit", () -> {
            Run x = rooted();
            x.due(1, "unit", 1);
            x.due(STATE, "reference", 0, 9, 19, 1);
            x.due(STATE, "reference", 0, 9, 21, 1);
            x.due(1, "reference", 1, 9, 19, 1);
            x.due(2, "reference", 1, 10, 21, 1);
        });
        sentence(TERMS, "by its place from where the unit begins: four bytes; its ROW.", () -> {
            Run x = fresh();
            x.due(0, "unit", 5);
            x.due(1, "unit", 6);
            x.due(2, "entry", 1, 7);
            x.due(1, "reference", 1, 9, 19, 2);
            x.due(2, "reference", 1, 10, 21, 2);
            x.due(1, "reference", 2, 9, 21, 1);
            x.answer("write");
            x.dueSection(0, join(unit(0, 1), unit(0, 2, 17, 0, 0, 0, 17, 3, 11, 0)));
            x.due(3, "read");
            x.due(2, "value", 1, 0);
            x.due(2, "value", 1, 1);
            x.due(1, "value", 2, 0);
        });
    }

    private static void tellNumbers() {
        sentence(TERMS, "NUMBERS of two, four, eight bytes stand with the lowest byte first.", () -> {
            dueHeld(5, 0x0102, 2, 1);
            dueHeld(6, 0x01020304L, 4, 3, 2, 1);
            dueHeld(7, 0x0102030405060708L, 8, 7, 6, 5, 4, 3, 2, 1);
        });
        sentence(TERMS, "A ROW of a number n, 0 or above: its lowest seven bits, and 128 if more follow; then the next"
                + " seven; as few bytes as may be.", () -> {
            dueHeld(15, 127, 127);
            dueHeld(15, 128, 128, 1);
            dueHeld(15, 300, 0xac, 2);
            dueHeld(15, 16383, 255, 127);
            dueHeld(15, 16384, 128, 128, 1);
            dueHeld(15, (1L << 56) - 1, 255, 255, 255, 255, 255, 255, 255, 127);
            dueHeld(15, 1L << 56, 128, 128, 128, 128, 128, 128, 128, 128, 1);
        });
        sentence(TERMS, "A SIGNED row of a long: likewise, the last byte's bit 64 being its sign: as few as may be.",
                () -> {
            dueHeld(13, 63, 63);
            dueHeld(13, 64, 192, 0);
            dueHeld(13, -64, 64);
            dueHeld(13, -65, 191, 127);
            dueHeld(13, 8191, 255, 63);
            dueHeld(13, 8192, 128, 192, 0);
            dueHeld(13, -8192, 128, 64);
            dueHeld(13, -8193, 255, 191, 127);
            dueHeld(13, (1L << 62) - 1, 255, 255, 255, 255, 255, 255, 255, 255, 63);
            dueHeld(13, 1L << 62, 128, 128, 128, 128, 128, 128, 128, 128, 192, 0);
            dueHeld(13, -1L << 62, 128, 128, 128, 128, 128, 128, 128, 128, 64);
        });
    }

    private static void tellReadRows() {
        sentence(TERMS, "When they are READ there may be more of them than need be", () -> {
            dueValue(0, 15, 128, 0);
            dueValue(300, 15, 0xac, 0x82, 0x80, 0);
            dueValue(-1, 13, 255, 255, 127);
            dueValue(5, 13, 133, 128, 0);
            dueRead(1, unit(0, 129, 0), row(129, 128, 0, 145, 0, 0, 128, 0, 128, 128, 0, 128, 0))
                    .due(17, "about", 0, 0);
        });
        sentence(TERMS, "10 bytes at most", () -> {
            dueValue(1, 15, join(row(129), times(8, 128), row(0)));
            dueBadValue(4, 0, 15, join(row(129), times(9, 128), row(0)));
            dueValue(1, 13, join(row(129), times(8, 128), row(0)));
            dueBadValue(4, 0, 13, join(row(129), times(9, 128), row(0)));
            dueValue(-1, 13, join(times(9, 255), row(127)));
            dueBadValue(4, 0, 13, join(times(10, 255), row(127)));
        });
        sentence(TERMS, "(a tenth byte is 0", "of a row", () -> {
            dueValue(Long.MAX_VALUE, 15, join(times(9, 255), row(0)));
            for (int tenth : new int[] {1, 2, 64, 126, 127, 128, 255}) {
                dueBadValue(4, 0, 15, join(times(9, 255), row(tenth)));
            }
        });
        sentence(TERMS, "of a signed row 0 or 127).", () -> {
            dueValue(Long.MAX_VALUE, 13, join(times(9, 255), row(0)));
            dueValue(Long.MIN_VALUE, 13, join(times(9, 128), row(127)));
            for (int tenth : new int[] {1, 63, 64, 126, 128, 255}) {
                dueBadValue(4, 0, 13, join(times(9, 255), row(tenth)));
            }
        });
    }
}
