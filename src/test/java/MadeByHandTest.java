/** Promises 1 to 9: the tape, and trees that are made by hand. */
public final class MadeByHandTest {
    public static void main(String[] args) {
        newObject();
        feed();
        end();
        unit();
        entry();
        depth();
        number();
        numberEdges();
        bytes();
        bytesRoom();
        reference();
        eightAttributes();
        clear();
        Run.finish();
    }

    private static void newObject() {
        Run x = new Run("1 new object");
        for (int what = 0; what < 4; what++) {
            x.due(0, "count", what);
        }
        for (int section = 0; section < 3; section++) {
            x.due(0, "size", section);
        }
        x.due(0, "fault", 0);
        x.due(0, "fault", 1);
        x.due(Run.ARGUMENT, "end", 1);
        x.due(-1, "covers", 0);
        x.due(-1, "find", -1);
        x.due(Run.OUT_OF_BOUNDS, "about", 0, 0);
        x.due(Run.OUT_OF_BOUNDS, "root", 0);
        x.due(0, "read");
        x.due(0, "clear");
    }

    private static void feed() {
        Run x = new Run("2 feed");
        x.due(20, "feed", 0x01020304, 0x05060708, -1, 0x80000000, 0x7f00ff01);
        x.due(40, "feed", 0, 0, 0, 0, 9);
        x.due("void", "end", 40);
        x.due(40, "load", 1);
        x.dueSection(1, 1, 2, 3, 4, 5, 6, 7, 8, 255, 255, 255, 255, 128, 0, 0, 0, 127, 0, 255, 1,
                0, 0, 0, 0, 0, 0, 0, 0, 0, 0, 0, 0, 0, 0, 0, 0, 0, 0, 0, 9);
        x.due(20, "feed", 0, 0, 0, 0, 0);
        for (int n = 40; n <= 12000; n += 20) {
            x.due(n, "feed", 1, 2, 3, 4, 5);
        }
        x.due(Run.STATE, "feed", 1, 2, 3, 4, 5);
        x.due("void", "end", 11981);
        x.due(Run.STATE, "feed", 1, 2, 3, 4, 5);
        x.due("void", "end", 11980);
        x.due(12000, "feed", 1, 2, 3, 4, 5);
    }

    private static void end() {
        Run x = new Run("3 end");
        x.due("void", "end", 0);
        x.due(Run.ARGUMENT, "end", 1);
        x.due(Run.ARGUMENT, "end", -1);
        x.due(20, "feed", 0x01020304, 0, 0, 0, 0);
        x.due(Run.ARGUMENT, "end", 21);
        x.due(Run.ARGUMENT, "end", Integer.MIN_VALUE);
        x.due(Run.ARGUMENT, "end", Integer.MAX_VALUE);
        x.due("void", "end", 20);
        x.due("void", "end", 3);
        x.due(Run.ARGUMENT, "end", 4);
        x.due(3, "load", 0);
        x.dueSection(0, 1, 2, 3);
        x.due(Run.ARGUMENT, "end", 1);
    }

    private static void unit() {
        Run x = new Run("4 unit");
        x.due(Run.ARGUMENT, "unit", 0);
        x.due(Run.ARGUMENT, "unit", -1);
        x.due(Run.ARGUMENT, "unit", 16384);
        x.due(0, "unit", 16383);
        x.due(1, "entry", 0, 5);
        x.due(2, "unit", 1);
        x.due(0, "root", 0);
        x.due(2, "root", 1);
        x.due(1, "about", 2, 2);
        x.due(-1, "about", 2, 1);
        for (int u = 2; u < 6; u++) {
            x.due(u + 1, "unit", 7);
        }
        x.due(Run.UNSUPPORTED, "unit", 7);
        x.due(Run.ARGUMENT, "unit", 0);
        x.due(6, "count", 1);
        x.due(7, "count", 0);
        x.due(7, "entry", 6, 7);
    }

    private static void entry() {
        Run x = new Run("5 entry");
        x.due(Run.OUT_OF_BOUNDS, "entry", 0, 1);
        x.due(0, "unit", 1);
        x.due(Run.OUT_OF_BOUNDS, "entry", 1, 1);
        x.due(Run.OUT_OF_BOUNDS, "entry", -1, 0);
        x.due(Run.ARGUMENT, "entry", 0, 0);
        x.due(Run.ARGUMENT, "entry", 0, 16384);
        for (int e = 1; e < 400; e++) {
            x.due(e, "entry", 0, 16383);
        }
        x.due(Run.UNSUPPORTED, "entry", 0, 1);
        x.due(Run.UNSUPPORTED, "unit", 1);
        x.due(Run.ARGUMENT, "entry", 0, 0);
        x.due(Run.ARGUMENT, "unit", 0);
        x.due(Run.OUT_OF_BOUNDS, "entry", 400, 1);
        x.due(400, "count", 0);
        x.due(399, "about", 0, 3);
        x.due(399, "child", 0, 398);
        x.due(-1, "child", 0, 399);
    }

    private static void depth() {
        Run x = new Run("5 depth");
        x.due(0, "unit", 1);
        for (int e = 1; e <= 30; e++) {
            x.due(e, "entry", e - 1, 1);
        }
        x.due(Run.UNSUPPORTED, "entry", 30, 1);
        x.due(Run.ARGUMENT, "entry", 30, 0);
        x.due(31, "entry", 29, 1);
        x.due(Run.UNSUPPORTED, "entry", 31, 1);
        x.due(32, "count", 0);
        // What lay deep before does not lie deep when it is a root.
        x.due(32, "clear");
        x.due(0, "unit", 1);
        for (int e = 1; e < 6; e++) {
            x.due(e, "unit", 1);
        }
        for (int e = 6; e < 36; e++) {
            x.due(e, "entry", e - 1, 1);
        }
        x.due(Run.UNSUPPORTED, "entry", 35, 1);
    }

    private static void number() {
        Run x = new Run("6 number");
        x.due(Run.OUT_OF_BOUNDS, "number", 0, 0, 0, 0);
        x.due(0, "unit", 1);
        x.due(Run.OUT_OF_BOUNDS, "number", 1, 1, 11, 1);
        x.due(Run.OUT_OF_BOUNDS, "number", -1, 1, 11, 1);
        x.due(Run.ARGUMENT, "number", 0, 0, 11, 1);
        x.due(Run.ARGUMENT, "number", 0, 16384, 11, 1);
        for (int form : new int[] {-1, 0, 1, 8, 9, 10, 14, 16, 19, 21, 24, 26}) {
            x.due(Run.ARGUMENT, "number", 0, 1, form, 1);
        }
        x.due(0, "about", 0, 4);
        x.due(1, "number", 0, 16383, 11, 255);
        x.due(Run.ARGUMENT, "number", 0, 16383, 5, 1);
        x.due(2, "number", 0, 1, 25, 1);
        x.due(2, "about", 0, 4);
        x.due(255, "value", 0, 0);
        x.due(1, "value", 0, 1);
    }

    private static void numberEdges() {
        long[][] rights = {{11, 0}, {11, 255}, {5, 0}, {5, 65535}, {6, 0}, {6, 4294967295L}, {7, Long.MIN_VALUE},
            {7, Long.MAX_VALUE}, {13, Long.MIN_VALUE}, {13, Long.MAX_VALUE}, {15, 0}, {15, Long.MAX_VALUE},
            {12, 0}, {12, 1}, {25, 1}};
        for (long[] right : rights) {
            Run x = new Run("6 values");
            x.due(0, "unit", 1);
            x.due(1, "number", 0, 4, right[0], right[1]);
            x.due(right[1], "value", 0, 0);
            x.due(right[0], "attribute", 0, 0, 1);
        }
        long[][] wrongs = {{11, -1}, {11, 256}, {5, -1}, {5, 65536}, {6, -1}, {6, 4294967296L}, {15, -1},
            {15, Long.MIN_VALUE}, {12, -1}, {12, 2}, {25, 0}, {25, 2}};
        Run x = new Run("6 wrong values");
        x.due(0, "unit", 1);
        for (long[] wrong : wrongs) {
            x.due(Run.ARGUMENT, "number", 0, 4, wrong[0], wrong[1]);
        }
        x.due(0, "about", 0, 4);
    }

    private static void bytes() {
        Run x = new Run("7 bytes");
        x.tape("abc");
        x.due(Run.OUT_OF_BOUNDS, "bytes", 0, 1, 8);
        x.due(0, "unit", 1);
        x.due(Run.OUT_OF_BOUNDS, "bytes", -1, 1, 8);
        x.due(Run.ARGUMENT, "bytes", 0, 0, 8);
        x.due(Run.ARGUMENT, "bytes", 0, 16384, 8);
        for (int form : new int[] {0, 5, 6, 7, 9, 11, 12, 13, 15, 19, 21, 25}) {
            x.due(Run.ARGUMENT, "bytes", 0, 1, form);
        }
        x.due(1, "bytes", 0, 1, 8);
        x.due(Run.ARGUMENT, "end", 1);
        x.due(Run.ARGUMENT, "bytes", 0, 1, 10);
        x.due(2, "bytes", 0, 2, 14);
        x.due(3, "bytes", 0, 3, 8);
        x.due(3, "attribute", 0, 0, 2);
        x.due('c', "letter", 0, 0, 2);
        x.due(0, "attribute", 0, 1, 2);
        x.tape(1, 0, 255);
        x.due(Run.ARGUMENT, "bytes", 0, 4, 8);
        x.due(Run.ARGUMENT, "bytes", 0, 4, 14);
        x.due("void", "end", 3);
        x.due(4, "bytes", 0, 4, 10);
        x.due(0, "letter", 0, 3, 1);
        x.due(255, "letter", 0, 3, 2);
        bytesLengths();
    }

    private static void bytesLengths() {
        for (int form : new int[] {8, 14, 10}) {
            Run x = new Run("7 lengths of form " + form);
            x.due(0, "unit", 1);
            x.tape("x".repeat(256));
            x.due(Run.ARGUMENT, "bytes", 0, 1, form);
            x.due("void", "end", 255);
            x.due(1, "bytes", 0, 1, form);
            x.due(255, "attribute", 0, 0, 2);
            x.due('x', "letter", 0, 0, 254);
            x.due(Run.OUT_OF_BOUNDS, "letter", 0, 0, 255);
            x.due(2, "bytes", 0, 2, form);
            x.due(0, "attribute", 0, 1, 2);
        }
    }

    private static void bytesRoom() {
        Run x = new Run("7 room");
        x.due(0, "unit", 1);
        for (int i = 0; i < 117; i++) {
            if (i % 8 == 0) {
                x.due(1 + i / 8, "entry", 0, 2);
            }
            x.tape("y".repeat(255));
            x.due(1 + i % 8, "bytes", 1 + i / 8, 1 + i, i % 2 == 0 ? 14 : 10);
        }
        x.tape("z".repeat(166));
        x.due(Run.UNSUPPORTED, "bytes", 0, 1, 8);
        x.due(Run.ARGUMENT, "bytes", 0, 0, 8);
        x.due("void", "end", 166);
        x.due("void", "end", 165);
        x.due(1, "bytes", 0, 1, 8);
        x.due(2, "bytes", 0, 2, 8);
        x.tape("z");
        x.due(Run.UNSUPPORTED, "bytes", 0, 3, 10);
        x.due(3, "number", 0, 3, 11, 1);
        x.due(4, "reference", 0, 4, 21, 0);
        x.due("void", "end", 0);
        x.due(5, "bytes", 0, 5, 10);
        x.due(1, "count", 3);
        x.tape("z");
        x.due(16, "clear");
        x.due(0, "unit", 1);
        x.due(1, "bytes", 0, 3, 10);
        fillAgain(x);
    }

    /** All of the room is there again when all is gone. */
    private static void fillAgain(Run x) {
        for (int i = 0; i < 117; i++) {
            if (i % 8 == 0) {
                x.due(1 + i / 8, "entry", 0, 2);
            }
            x.tape("y".repeat(255));
            x.due(1 + i % 8, "bytes", 1 + i / 8, 1 + i, 10);
        }
        x.tape("z".repeat(165));
        x.due(Run.UNSUPPORTED, "bytes", 0, 1, 8);
        x.due("void", "end", 164);
        x.due(2, "bytes", 0, 1, 8);
    }

    private static void reference() {
        Run x = new Run("8 reference");
        x.due(0, "unit", 1);
        x.due(1, "entry", 0, 1);
        x.due(2, "unit", 1);
        x.due(Run.OUT_OF_BOUNDS, "reference", 3, 0, 0, 0);
        x.due(Run.OUT_OF_BOUNDS, "reference", 0, 0, 0, 3);
        x.due(Run.OUT_OF_BOUNDS, "reference", 0, 1, 19, -1);
        x.due(Run.OUT_OF_BOUNDS, "reference", -1, 1, 19, 0);
        x.due(Run.STATE, "reference", 0, 0, 0, 2);
        x.due(Run.STATE, "reference", 2, 1, 19, 1);
        x.due(Run.ARGUMENT, "reference", 0, 0, 19, 1);
        x.due(Run.ARGUMENT, "reference", 0, 16384, 19, 1);
        for (int form : new int[] {0, 5, 6, 7, 8, 10, 11, 12, 13, 14, 15, 18, 20, 22, 25}) {
            x.due(Run.ARGUMENT, "reference", 0, 1, form, 1);
        }
        x.due(1, "reference", 0, 1, 19, 1);
        x.due(Run.ARGUMENT, "reference", 0, 1, 21, 1);
        x.due(2, "reference", 0, 2, 21, 0);
        x.due(1, "reference", 1, 2, 21, 0);
        x.due(1, "value", 0, 0);
        x.due(0, "value", 0, 1);
        x.due(0, "value", 1, 0);
    }

    private static void eightAttributes() {
        Run x = new Run("6 to 8, eight attributes");
        x.due(0, "unit", 1);
        x.due(1, "unit", 1);
        x.tape("q");
        for (int k = 1; k <= 8; k++) {
            x.due(k, "number", 0, k, 15, k);
        }
        x.due(Run.UNSUPPORTED, "number", 0, 9, 15, 9);
        x.due(Run.ARGUMENT, "number", 0, 8, 15, 9);
        x.due(Run.ARGUMENT, "number", 0, 9, 15, -9);
        x.due(Run.UNSUPPORTED, "bytes", 0, 9, 8);
        x.due(Run.ARGUMENT, "bytes", 0, 8, 8);
        x.due(Run.UNSUPPORTED, "reference", 0, 9, 21, 0);
        x.due(Run.ARGUMENT, "reference", 0, 8, 21, 0);
        x.due(Run.STATE, "reference", 0, 9, 21, 1);
        x.due(8, "about", 0, 4);
        x.due(1, "bytes", 1, 9, 8);
        x.due(1, "attribute", 1, 0, 2);
    }

    private static void clear() {
        Run x = new Run("9 clear");
        x.due(0, "unit", 1);
        x.due(1, "entry", 0, 1);
        x.tape("ab");
        x.due(1, "bytes", 1, 3, 14);
        int size = x.answer("write");
        x.tape("cd");
        x.due(2, "clear");
        for (int what = 0; what < 4; what++) {
            x.due(0, "count", what);
        }
        x.due(Run.OUT_OF_BOUNDS, "root", 0);
        x.due("void", "end", 2);
        Run.same("9 sections stay", x.section(0).length + x.section(1).length + x.section(2).length, size);
        x.due(0, "clear");
        x.due(2, "read");
        x.due('b', "letter", 1, 0, 1);
        x.due(2, "clear");
        x.due(0, "unit", 9);
        x.due(0, "about", 0, 4);
        x.due(0, "about", 0, 3);
        x.load(0, 1);
        x.dueFault(1, 0, 1);
        x.due(1, "clear");
        x.due(1, "fault", 0);
    }
}
