import java.util.List;

/** The sentences of promises 1 to 9: the tape, and trees made by hand. */
public final class SentencesOfPromises1To9Test extends Sentences {
    private static final int[] NO_CODES = {0, -1, 16384, Integer.MIN_VALUE, Integer.MAX_VALUE};
    private static final int[] NO_ENTRIES = {-1, -2, Integer.MIN_VALUE, Integer.MAX_VALUE};

    public static void main(String[] args) {
        tell();
        testAll();
    }

    static void tell() {
        tellNewObject();
        tellFeed();
        tellEnd();
        tellUnit();
        tellEntry();
        tellNumber();
        tellNumberRefused();
        tellBytes();
        tellBytesRefused();
        tellReference();
        tellReferenceRefused();
        tellClear();
    }

    private static void tellNewObject() {
        sentence("Promise 1", "No entries", () -> {
            Run x = fresh();
            for (int what = 0; what < 4; what++) {
                x.due(0, "count", what);
            }
            x.due(OUT_OF_BOUNDS, "about", 0, 0);
            x.due(OUT_OF_BOUNDS, "child", 0, 0);
            x.due(OUT_OF_BOUNDS, "root", 0);
            x.due(OUT_OF_BOUNDS, "attribute", 0, 0, 0);
            x.due(EntryTree.NONE, "covers", 0);
            x.due(EntryTree.NONE, "find", EntryTree.NONE);
            x.due(0, "clear");
        });
        sentence("Promise 1", "an empty tape", () -> {
            Run x = fresh();
            x.due(ARGUMENT, "end", 1);
            x.due("void", "end", 0);
            x.due(0, "load", 0);
            x.due(20, "feed", 1, 2, 3, 4, 5);
        });
        sentence("Promise 1", "empty sections.", () -> {
            Run x = fresh();
            for (int section = 0; section < 3; section++) {
                x.due(0, "size", section);
                x.due(OUT_OF_BOUNDS, "octet", section, 0);
                x.due(OUT_OF_BOUNDS, "alter", section, 0, 1);
            }
            x.due(0, "read");
            x.due(0, "fault", 0);
        });
    }

    private static void tellFeed() {
        String twenty = "Twenty bytes come behind the tape, each number's highest one first: how many it has.";
        sentence("Promise 2", twenty, () -> {
            Run x = fresh();
            x.due(20, "feed", 0x01020304, 0x05060708, -1, 0x80000000, 0x7f00ff01);
            x.due(40, "feed", 0, 1, 0x100, 0x10000, 0x1000000);
            x.due(40, "load", 1);
            x.dueSection(1, 1, 2, 3, 4, 5, 6, 7, 8, 255, 255, 255, 255, 128, 0, 0, 0, 127, 0, 255, 1,
                    0, 0, 0, 0, 0, 0, 0, 1, 0, 0, 1, 0, 0, 1, 0, 0, 1, 0, 0, 0);
        });
        sentence("Promise 2", twenty, "behind a tape that was cut", () -> {
            Run x = fresh();
            x.due(20, "feed", 0x0a0b0c0d, -1, -1, -1, -1);
            x.due("void", "end", 3);
            x.due(23, "feed", 0x01020304, 0, 0, 0, 5);
            dueTape(x, 10, 11, 12, 1, 2, 3, 4, 0, 0, 0, 0, 0, 0, 0, 0, 0, 0, 0, 0, 0, 0, 0, 5);
        });
        longSentence("Promise 2", "IllegalStateException when there would be more than 12000.",
                "12000, and then from 11980 and 11981 on; the tape stays", () -> {
            Run x = fresh();
            for (int n = 20; n <= 12000; n += 20) {
                x.due(n, "feed", n, n, n, n, n);
            }
            x.due(STATE, "feed", -1, -1, -1, -1, -1);
            x.due("void", "end", 11981);
            x.due(STATE, "feed", -1, -1, -1, -1, -1);
            x.due(ARGUMENT, "end", 11982);
            x.due("void", "end", 11980);
            x.due(12000, "feed", 7, 7, 7, 7, 7);
            x.due(12000, "load", 0);
            x.due(0, "octet", 0, 11977);
            x.due(11980 >> 8, "octet", 0, 11978);
            x.due(11980 & 255, "octet", 0, 11979);
            x.due(7, "octet", 0, 11999);
        });
    }

    private static void tellEnd() {
        sentence("Promise 3", "The tape is cut behind its first n bytes.", () -> {
            Run x = fresh();
            x.due(20, "feed", 0x01020304, 0x05060708, 0, 0, 9);
            x.due("void", "end", 20);
            x.due("void", "end", 7);
            x.due("void", "end", 7);
            dueTape(x, 1, 2, 3, 4, 5, 6, 7);
            x.due(20, "feed", 1, 2, 3, 4, 5);
            x.due("void", "end", 0);
            dueTape(x);
        });
        sentence("Promise 3", "IllegalArgumentException when n is below 0", () -> {
            Run x = fresh();
            x.due(ARGUMENT, "end", -1);
            x.tape(1, 2);
            x.due(ARGUMENT, "end", -1);
            x.due(ARGUMENT, "end", Integer.MIN_VALUE);
            dueTape(x, 1, 2);
        });
        sentence("Promise 3", "or more than it has.", () -> {
            Run x = fresh();
            x.due(ARGUMENT, "end", 1);
            x.due(20, "feed", 0x01020304, 0, 0, 0, 0);
            x.due(ARGUMENT, "end", 21);
            x.due(ARGUMENT, "end", Integer.MAX_VALUE);
            x.due("void", "end", 3);
            x.due(ARGUMENT, "end", 4);
            dueTape(x, 1, 2, 3);
        });
    }

    private static Run full() {
        Run x = rooted();
        for (int e = 1; e < 400; e++) {
            x.due(e, "entry", 0, 1);
        }
        return x;
    }

    private static void tellUnit() {
        sentence("Promise 4", "A unit with its ROOT: the root's number.", () -> {
            Run x = fresh();
            x.due(0, "unit", 9);
            x.due(1, "entry", 0, 1);
            x.due(2, "unit", 8);
            x.due(2, "count", 1);
            x.due(2, "root", 1);
            x.due(8, "about", 2, 0);
            x.due(EntryTree.NONE, "about", 2, 1);
            x.due(1, "about", 2, 2);
            x.due(0, "about", 2, 3);
            x.due(0, "about", 2, 4);
        });
        sentence("Promise 4", "IllegalArgumentException: the TAG", () -> {
            Run x = fresh();
            for (int tag : NO_CODES) {
                dueRefused(x, ARGUMENT, "unit", tag);
            }
            x.due(0, "unit", 1);
            x.due(1, "unit", 16383);
        });
        sentence("Promise 4", "IllegalArgumentException: the TAG", "before UnsupportedOperationException", () -> {
            Run x = fresh();
            for (int u = 0; u < 6; u++) {
                x.due(u, "unit", 1);
            }
            x.due(ARGUMENT, "unit", 0);
            x = full();
            x.due(ARGUMENT, "unit", 16384);
        });
        sentence("Promise 4", "UnsupportedOperationException: there are six", () -> {
            Run x = fresh();
            for (int u = 0; u < 6; u++) {
                x.due(u, "unit", 1);
            }
            dueRefused(x, UNSUPPORTED, "unit", 1);
            x.due(6, "clear");
            x.due(0, "unit", 1);
        });
        sentence("Promise 4", "or 400 entries.", () -> {
            Run x = full();
            x.due(UNSUPPORTED, "unit", 1);
            x.due(1, "count", 1);
            x.due(400, "count", 0);
        });
    }

    private static void tellEntry() {
        sentence("Promise 5", "A child behind those of an entry: its number.", () -> {
            Run x = rooted();
            x.due(1, "entry", 0, 5);
            x.due(2, "entry", 1, 6);
            x.due(3, "entry", 0, 7);
            x.due(4, "entry", 1, 8);
            x.due(2, "about", 0, 3);
            x.due(1, "child", 0, 0);
            x.due(3, "child", 0, 1);
            x.due(2, "child", 1, 0);
            x.due(4, "child", 1, 1);
            x.due(1, "about", 4, 1);
            x.due(0, "about", 4, 2);
            x.due(8, "about", 4, 0);
        });
        sentence("Promise 5", "IndexOutOfBoundsException: there is no such entry", () -> {
            Run x = fresh();
            x.due(OUT_OF_BOUNDS, "entry", 0, 1);
            x.due(0, "unit", 1);
            x.due(OUT_OF_BOUNDS, "entry", 1, 1);
            for (int entry : NO_ENTRIES) {
                dueRefused(x, OUT_OF_BOUNDS, "entry", entry, 1);
                x.due(OUT_OF_BOUNDS, "entry", entry, 0);
            }
            x = full();
            x.due(OUT_OF_BOUNDS, "entry", 400, 1);
        });
        sentence("Promise 5", "IllegalArgumentException: the TAG", () -> {
            Run x = rooted();
            for (int tag : NO_CODES) {
                dueRefused(x, ARGUMENT, "entry", 0, tag);
            }
            x.due(1, "entry", 0, 1);
            x.due(2, "entry", 0, 16383);
        });
        sentence("Promise 5", "IllegalArgumentException: the TAG", "before UnsupportedOperationException", () -> {
            Run x = full();
            x.due(ARGUMENT, "entry", 0, 0);
        });
        sentence("Promise 5", "UnsupportedOperationException: there are 400", () -> {
            Run x = full();
            x.due(UNSUPPORTED, "entry", 0, 1);
            x.due(UNSUPPORTED, "entry", 399, 1);
            x.due(400, "count", 0);
            x.due(399, "about", 0, 3);
            x.due(0, "about", 399, 3);
        });
        sentence("Promise 5", "or it would lie within more than 30.", () -> {
            Run x = rooted();
            for (int e = 1; e <= 30; e++) {
                x.due(e, "entry", e - 1, 1);
            }
            x.due(UNSUPPORTED, "entry", 30, 1);
            x.due(ARGUMENT, "entry", 30, 0);
            x.due(0, "about", 30, 3);
            x.due(31, "entry", 29, 1);
            x.due(UNSUPPORTED, "entry", 31, 1);
            // What lay deep before does not when it is a root.
            x.due(32, "clear");
            for (int e = 0; e < 6; e++) {
                x.due(e, "unit", 1);
            }
            for (int e = 6; e < 36; e++) {
                x.due(e, "entry", e - 1, 1);
            }
            x.due(UNSUPPORTED, "entry", 35, 1);
        });
    }

    private static void tellNumber() {
        sentence("Promise 6", "An attribute of form 5, 6, 7, 11, 12, 13, 15 or 25: how many the entry has then.",
                () -> {
            Run x = rooted();
            x.due(1, "unit", 1);
            int[] forms = {5, 6, 7, 11, 12, 13, 15, 25};
            for (int k = 0; k < 8; k++) {
                x.due(k + 1, "number", 0, 40 + k, forms[k], 1);
                x.due(k + 1, "about", 0, 4);
            }
            for (int k = 0; k < 8; k++) {
                x.due(40 + k, "attribute", 0, k, 0);
                x.due(forms[k], "attribute", 0, k, 1);
                x.due(1, "value", 0, k);
            }
            x.due(0, "about", 1, 4);
        });
    }

    private static void tellNumberRefused() {
        sentence("Promise 6", "IndexOutOfBoundsException: there is no such entry", () -> {
            Run x = fresh();
            x.due(OUT_OF_BOUNDS, "number", 0, 1, 11, 1);
            x.due(0, "unit", 1);
            x.due(OUT_OF_BOUNDS, "number", 1, 1, 11, 1);
            for (int entry : NO_ENTRIES) {
                dueRefused(x, OUT_OF_BOUNDS, "number", entry, 1, 11, 1);
                x.due(OUT_OF_BOUNDS, "number", entry, 0, 0, -1);
            }
        });
        sentence("Promise 6", "IllegalArgumentException: NAME", () -> {
            Run x = rooted();
            for (int name : NO_CODES) {
                dueRefused(x, ARGUMENT, "number", 0, name, 11, 1);
            }
            x.due(1, "number", 0, 1, 11, 1);
            x.due(2, "number", 0, 16383, 11, 1);
        });
        sentence("Promise 6", "IllegalArgumentException: NAME, form", "a form that is none of these", () -> {
            Run x = rooted();
            for (int form = -3; form < 40; form++) {
                if (!List.of(5, 6, 7, 11, 12, 13, 15, 25).contains(form)) {
                    x.due(ARGUMENT, "number", 0, 1, form, 1);
                }
            }
            x.due(ARGUMENT, "number", 0, 1, 256 + 11, 1);
            x.due(ARGUMENT, "number", 0, 1, Integer.MIN_VALUE, 1);
            x.due(ARGUMENT, "number", 0, 1, Integer.MAX_VALUE, 1);
            x.due(0, "about", 0, 4);
        });
        sentence("Promise 6", "IllegalArgumentException: NAME, form, value", "a value too small or too large", () -> {
            Run x = rooted();
            long[][] wrongs = {{11, -1}, {11, 256}, {5, -1}, {5, 65536}, {6, -1}, {6, 4294967296L}, {12, -1}, {12, 2},
                {15, -1}, {15, Long.MIN_VALUE}, {25, 0}, {25, 2}, {25, -1}};
            for (long[] wrong : wrongs) {
                x.due(ARGUMENT, "number", 0, 1, wrong[0], wrong[1]);
            }
            x.due(0, "about", 0, 4);
            long[][] rights = {{11, 0}, {11, 255}, {5, 0}, {5, 65535}, {6, 0}, {6, 4294967295L}, {12, 0}, {12, 1},
                {15, 0}, {15, Long.MAX_VALUE}, {25, 1}, {7, Long.MIN_VALUE}, {7, Long.MAX_VALUE},
                {13, Long.MIN_VALUE}, {13, Long.MAX_VALUE}};
            for (int i = 0; i < rights.length; i++) {
                x.due(i + 1, "entry", 0, 1);
                x.due(1, "number", i + 1, 1, rights[i][0], rights[i][1]);
                x.due(rights[i][1], "value", i + 1, 0);
            }
        });
        sentence("Promise 6", "or the NAME is told", () -> {
            Run x = rooted();
            x.due(1, "unit", 1);
            x.due(1, "number", 0, 7, 11, 1);
            x.due(2, "reference", 0, 8, 19, 0);
            x.due(3, "bytes", 0, 9, 8);
            for (int name = 7; name <= 9; name++) {
                dueRefused(x, ARGUMENT, "number", 0, name, 12, 1);
            }
            x.due(1, "number", 1, 7, 11, 1);
        });
        sentence("Promise 6", "UnsupportedOperationException: there are 8", () -> {
            Run x = rooted();
            for (int k = 1; k <= 8; k++) {
                x.due(k, "number", 0, k, 15, k);
            }
            dueRefused(x, UNSUPPORTED, "number", 0, 9, 15, 9);
            x.due(ARGUMENT, "number", 0, 0, 15, 9);
            x.due(ARGUMENT, "number", 0, 9, 14, 9);
            x.due(ARGUMENT, "number", 0, 9, 15, -9);
            x.due(ARGUMENT, "number", 0, 8, 15, 9);
        });
        sentence("Promise 6", "or (of bytes()) there is no room for the bytes.", () -> {
            Run x = SentencesOfTermsTest.fullOfLetters();
            x.tape("z");
            x.due(UNSUPPORTED, "bytes", 0, 9, 8);
            x.due(0, "about", 0, 4);
            dueTape(x, 'z');
            // Numbers and references need no such room, and when all is gone there is room again.
            x.due(1, "number", 0, 9, 7, 1);
            x.due(2, "reference", 0, 10, 21, 0);
            x.due(119, "clear");
            x.due(0, "unit", 1);
            x.tape(times(255, 'z'));
            x.due(1, "bytes", 0, 9, 8);
        });
        sentence("Promise 6", "or (of bytes()) there is no room for the bytes.", "just enough, one too many", () -> {
            Run x = loaded(unit(0, join(row(1), times(117, 2, 0, 0, 0, 0), row(0))),
                    row(1, 1, 1, 0, 0, 2, 1, 0, 1, 14, 0, 0, 0), join(times(255, 't'), row(0)));
            x.due(118, "read");
            x.tape(times(166, 'z'));
            x.due(UNSUPPORTED, "bytes", 0, 9, 8);
            x.due("void", "end", 165);
            x.due(1, "bytes", 0, 9, 8);
            x.due('z', "letter", 0, 0, 164);
        });
    }

    private static void tellBytes() {
        String attribute = "An attribute of form 8, 14 (a TEXT) or 10 (a BLOCK), its bytes being the tape's, which is"
                + " empty then: how many.";
        for (int form : new int[] {8, 14, 10}) {
            sentence("Promise 7", attribute, "form " + form, () -> {
                Run x = rooted();
                x.tape(1, 'b', 255);
                x.due(1, "bytes", 0, 5, form);
                x.due(ARGUMENT, "end", 1);
                x.due(2, "bytes", 0, 6, form);
                x.tape(times(255, 'q'));
                x.due(3, "bytes", 0, 7, form);
                x.due(3, "about", 0, 4);
                x.due(5, "attribute", 0, 0, 0);
                x.due(form, "attribute", 0, 0, 1);
                dueLetters(x, 0, 0, 1, 'b', 255);
                dueLetters(x, 0, 1);
                dueLetters(x, 0, 2, times(255, 'q'));
            });
        }
        sentence("Promise 7", attribute, "a BLOCK's bytes may be 0", () -> {
            Run x = rooted();
            x.tape(0, 0);
            x.due(1, "bytes", 0, 5, 10);
            dueLetters(x, 0, 0, 0, 0);
        });
    }

    private static void tellBytesRefused() {
        String as = "Exceptions as of number()";
        sentence("Promise 7", as, "there is no such entry", () -> {
            Run x = fresh();
            x.tape("t");
            x.due(OUT_OF_BOUNDS, "bytes", 0, 1, 8);
            x.due(0, "unit", 1);
            x.due(OUT_OF_BOUNDS, "bytes", 1, 1, 8);
            for (int entry : NO_ENTRIES) {
                x.due(OUT_OF_BOUNDS, "bytes", entry, 1, 8);
                x.due(OUT_OF_BOUNDS, "bytes", entry, 0, 0);
            }
            dueTape(x, 't');
        });
        sentence("Promise 7", as, "NAME, form, or the NAME is told", () -> {
            Run x = rooted();
            x.tape("t");
            for (int name : NO_CODES) {
                dueRefused(x, ARGUMENT, "bytes", 0, name, 8);
            }
            for (int form = -3; form < 40; form++) {
                if (form != 8 && form != 14 && form != 10) {
                    x.due(ARGUMENT, "bytes", 0, 1, form);
                }
            }
            x.due(1, "number", 0, 7, 11, 1);
            dueRefused(x, ARGUMENT, "bytes", 0, 7, 8);
            dueTape(x, 't');
        });
        sentence("Promise 7", as, "there are 8", () -> {
            Run x = rooted();
            for (int k = 1; k <= 8; k++) {
                x.due(k, "number", 0, k, 15, k);
            }
            x.tape("t");
            dueRefused(x, UNSUPPORTED, "bytes", 0, 9, 8);
            x.due(ARGUMENT, "bytes", 0, 8, 8);
            x.due(ARGUMENT, "bytes", 0, 9, 9);
            x.due("void", "end", 0);
            x.due(UNSUPPORTED, "bytes", 0, 9, 10);
            x.tape(0);
            x.due(ARGUMENT, "bytes", 0, 9, 8);
            x.due(UNSUPPORTED, "bytes", 0, 9, 10);
        });
        String octets = "(IllegalArgumentException: the bytes, too";
        sentence("Promise 7", octets, "a byte 0 in a TEXT", () -> {
            Run x = rooted();
            for (int[] wrong : new int[][] {{0}, {0, 1}, {1, 0}, {1, 0, 1}}) {
                x.tape(wrong);
                x.due(ARGUMENT, "bytes", 0, 1, 8);
                x.due(ARGUMENT, "bytes", 0, 1, 14);
            }
            x.due(0, "about", 0, 4);
            x.due(1, "bytes", 0, 1, 10);
        });
        sentence("Promise 7", octets, "more than 255", () -> {
            for (int form : new int[] {8, 14, 10}) {
                Run x = rooted();
                x.tape(times(256, 'x'));
                x.due(ARGUMENT, "bytes", 0, 1, form);
                x.due("void", "end", 255);
                x.due(1, "bytes", 0, 1, form);
            }
        });
        sentence("Promise 7", octets, "before there is no room for them", () -> {
            Run x = SentencesOfTermsTest.fullOfLetters();
            x.tape(1, 0);
            x.due(ARGUMENT, "bytes", 0, 9, 8);
            x.due(UNSUPPORTED, "bytes", 0, 9, 10);
            x.tape(times(256, 'x'));
            x.due(ARGUMENT, "bytes", 0, 9, 10);
        });
        sentence("Promise 7", "the tape stays)", () -> {
            Run x = rooted();
            x.tape(5, 0, 6);
            x.due(OUT_OF_BOUNDS, "bytes", 1, 1, 10);
            x.due(ARGUMENT, "bytes", 0, 0, 10);
            x.due(ARGUMENT, "bytes", 0, 1, 9);
            x.due(ARGUMENT, "bytes", 0, 1, 8);
            x.due(1, "bytes", 0, 1, 10);
            dueLetters(x, 0, 0, 5, 0, 6);
            for (int k = 2; k <= 8; k++) {
                x.due(k, "number", 0, k, 25, 1);
            }
            x.tape(times(256, 'y'));
            x.due(ARGUMENT, "bytes", 0, 9, 10);
            x.due("void", "end", 256);
            x.due("void", "end", 3);
            x.due(UNSUPPORTED, "bytes", 0, 9, 10);
            dueTape(x, 'y', 'y', 'y');
        });
    }

    private static void tellReference() {
        sentence("Promise 8", "An attribute of form 19 or 21: how many.", () -> {
            Run x = rooted();
            x.due(1, "entry", 0, 1);
            x.due(1, "reference", 0, 5, 19, 1);
            x.due(2, "reference", 0, 6, 21, 0);
            x.due(1, "reference", 1, 5, 21, 0);
            x.due(2, "about", 0, 4);
            x.due(19, "attribute", 0, 0, 1);
            x.due(21, "attribute", 0, 1, 1);
            x.due(1, "value", 0, 0);
            x.due(0, "value", 0, 1);
            x.due(0, "value", 1, 0);
        });
    }

    private static void tellReferenceRefused() {
        String as = "Exceptions as of number()";
        sentence("Promise 8", as, "there is no such entry", () -> {
            Run x = fresh();
            x.due(OUT_OF_BOUNDS, "reference", 0, 1, 19, 0);
            x.due(0, "unit", 1);
            x.due(OUT_OF_BOUNDS, "reference", 1, 1, 19, 0);
            for (int entry : NO_ENTRIES) {
                dueRefused(x, OUT_OF_BOUNDS, "reference", entry, 1, 19, 0);
                x.due(OUT_OF_BOUNDS, "reference", entry, 0, 0, 0);
            }
        });
        sentence("Promise 8", as, "NAME, form, or the NAME is told", () -> {
            Run x = rooted();
            for (int name : NO_CODES) {
                dueRefused(x, ARGUMENT, "reference", 0, name, 19, 0);
            }
            for (int form = -3; form < 40; form++) {
                if (form != 19 && form != 21) {
                    x.due(ARGUMENT, "reference", 0, 1, form, 0);
                }
            }
            x.due(1, "number", 0, 7, 11, 1);
            dueRefused(x, ARGUMENT, "reference", 0, 7, 21, 0);
        });
        sentence("Promise 8", as, "there are 8", () -> {
            Run x = rooted();
            for (int k = 1; k <= 8; k++) {
                x.due(k, "reference", 0, k, 21, 0);
            }
            dueRefused(x, UNSUPPORTED, "reference", 0, 9, 21, 0);
            x.due(ARGUMENT, "reference", 0, 8, 21, 0);
            x.due(ARGUMENT, "reference", 0, 9, 20, 0);
            x.due(ARGUMENT, "reference", 0, 0, 21, 0);
        });
        sentence("Promise 8", "IndexOutOfBoundsException: there is no such entry as its value", () -> {
            Run x = rooted();
            x.due(OUT_OF_BOUNDS, "reference", 0, 1, 19, 1);
            for (int entry : NO_ENTRIES) {
                dueRefused(x, OUT_OF_BOUNDS, "reference", 0, 1, 21, entry);
                x.due(OUT_OF_BOUNDS, "reference", 0, 0, 0, entry);
            }
        });
        sentence("Promise 8", "IllegalStateException (first but IndexOutOfBoundsException): that is one of another"
                + " unit.", () -> {
            Run x = rooted();
            x.due(1, "entry", 0, 1);
            x.due(2, "unit", 1);
            dueRefused(x, STATE, "reference", 0, 1, 19, 2);
            x.due(STATE, "reference", 2, 1, 21, 1);
            x.due(STATE, "reference", 0, 0, 19, 2);
            x.due(STATE, "reference", 0, 1, 20, 2);
            for (int k = 1; k <= 8; k++) {
                x.due(k, "number", 0, k, 25, 1);
            }
            x.due(STATE, "reference", 0, 9, 19, 2);
            x.due(STATE, "reference", 0, 8, 19, 2);
            x.due(OUT_OF_BOUNDS, "reference", 0, 9, 19, 3);
            x.due(OUT_OF_BOUNDS, "reference", 3, 9, 19, 0);
        });
    }

    private static void tellClear() {
        sentence("Promise 9", "All is gone", () -> {
            Run x = rooted();
            x.due(1, "unit", 1);
            x.due(2, "entry", 0, 1);
            x.tape("ab");
            x.due(1, "bytes", 2, 3, 14);
            x.due(3, "clear");
            for (int what = 0; what < 4; what++) {
                x.due(0, "count", what);
            }
            x.due(OUT_OF_BOUNDS, "about", 0, 0);
            x.due(OUT_OF_BOUNDS, "root", 0);
            x.due(1, "write");
            x.due(0, "unit", 9);
            x.due(0, "about", 0, 2);
            x.due(0, "about", 0, 3);
            x.due(0, "about", 0, 4);
            x.due(1, "entry", 0, 9);
            x.due(0, "about", 1, 4);
        });
        sentence("Promise 9", "All is gone", "the attributes too, when entries are made again", () -> {
            Run x = rooted();
            for (int e = 1; e <= 4; e++) {
                x.due(e, "entry", 0, 1);
                for (int k = 1; k <= 8; k++) {
                    if ((e + k) % 2 == 0) {
                        x.due(k, "reference", e, e + k, 21, e - 1);
                    } else {
                        x.tape('a' + 10 * e + k);
                        x.due(k, "bytes", e, e + k, 14);
                    }
                }
            }
            x.due(16, "count", 3);
            x.due(5, "clear");
            x.due(0, "unit", 1);
            for (int e = 1; e <= 4; e++) {
                x.due(e, "entry", 0, 1);
                x.due(1, "number", e, 4, 11, 9);
                x.due(10 + 2 * e, "about", e, 5);
                x.due(OUT_OF_BOUNDS, "attribute", e, 1, 0);
            }
            x.due(2, "count", 2);
            x.due(0, "count", 3);
            x.answer("write");
            x.dueSection(0, unit(0, 1, 2, 9, 2, 9, 2, 9, 2, 9, 0));
        });
        sentence("Promise 9", "but the tape and the sections", () -> {
            Run x = rooted();
            x.loadAll(row(1, 2), row(3), row(4, 5, 6));
            x.tape("cd");
            x.due(1, "clear");
            x.dueSection(0, 1, 2);
            x.dueSection(1, 3);
            x.dueSection(2, 4, 5, 6);
            dueTape(x, 'c', 'd');
        });
        sentence("Promise 9", "how many entries there were.", () -> {
            Run x = fresh();
            x.due(0, "clear");
            x.due(0, "unit", 1);
            x.due(1, "entry", 0, 1);
            x.due(2, "clear");
            x.due(0, "clear");
            x = full();
            x.due(400, "clear");
            x.due(0, "unit", 1);
        });
    }
}
