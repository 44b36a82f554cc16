/** Promises 17 to 25: what is asked of entries. */
public final class AskTest {
    public static void main(String[] args) {
        count();
        about();
        child();
        root();
        attribute();
        value();
        letter();
        find();
        findRoots();
        covers();
        coversWithoutSign();
        coversForms();
        Run.finish();
    }

    private static Run family() {
        Run x = new Run("a family");
        x.due(0, "unit", 10);
        x.due(1, "entry", 0, 11);
        x.due(2, "entry", 0, 12);
        x.due(3, "entry", 1, 13);
        x.due(4, "unit", 14);
        x.due(5, "entry", 0, 15);
        return x;
    }

    private static void count() {
        Run x = family();
        x.due(6, "count", 0);
        x.due(2, "count", 1);
        x.due(6, "count", 2);
        x.due(0, "count", 3);
        x.due(Run.OUT_OF_BOUNDS, "count", 4);
        x.due(Run.OUT_OF_BOUNDS, "count", -1);
        x.tape("t");
        x.due(1, "bytes", 0, 9, 14);
        x.tape("t");
        x.due(1, "bytes", 4, 8, 14);
        x.tape("u");
        x.due(2, "bytes", 4, 9, 8);
        x.due(1, "count", 3);
        x.due(3, "bytes", 4, 10, 14);
        x.due(2, "count", 3);
        x.due(6, "entry", 5, 12);
        x.due(6, "count", 2);
        x.due(7, "entry", 2, 12);
        x.due(7, "count", 2);
    }

    private static void about() {
        Run x = family();
        long[][] due = {{10, -1, 0, 3, 0, 11}, {11, 0, 0, 1, 0, 12}, {12, 0, 0, 0, 0, 15}, {13, 1, 0, 0, 0, 13},
            {14, -1, 1, 0, 0, 11}, {15, 0, 0, 0, 0, 16}};
        for (int e = 0; e < due.length; e++) {
            for (int what = 0; what < 6; what++) {
                x.due(due[e][what], "about", e, what);
            }
        }
        x.due(Run.OUT_OF_BOUNDS, "about", 6, 0);
        x.due(Run.OUT_OF_BOUNDS, "about", -1, 0);
        x.due(Run.OUT_OF_BOUNDS, "about", 0, 6);
        x.due(Run.OUT_OF_BOUNDS, "about", 0, -1);
        x.due(1, "number", 1, 5, 7, 0);
        x.due(1, "about", 1, 4);
        x.due(21, "about", 3, 5);
        x.due(24, "about", 5, 5);
        x.due(11, "about", 4, 5);
    }

    private static void child() {
        Run x = family();
        x.due(1, "child", 0, 0);
        x.due(2, "child", 0, 1);
        x.due(5, "child", 0, 2);
        x.due(-1, "child", 0, 3);
        x.due(-1, "child", 0, -1);
        x.due(-1, "child", 0, Integer.MAX_VALUE);
        x.due(3, "child", 1, 0);
        x.due(-1, "child", 1, 1);
        x.due(-1, "child", 4, 0);
        x.due(Run.OUT_OF_BOUNDS, "child", 6, 0);
        x.due(Run.OUT_OF_BOUNDS, "child", -1, 0);
    }

    private static void root() {
        Run x = family();
        x.due(0, "root", 0);
        x.due(4, "root", 1);
        x.due(Run.OUT_OF_BOUNDS, "root", 2);
        x.due(Run.OUT_OF_BOUNDS, "root", -1);
    }

    private static Run attributes() {
        Run x = family();
        x.due(1, "number", 1, 100, 6, 4294967295L);
        x.tape("text");
        x.due(2, "bytes", 1, 101, 8);
        x.due(3, "reference", 1, 102, 21, 5);
        x.tape(0, 200);
        x.due(4, "bytes", 1, 103, 10);
        x.tape("kept");
        x.due(5, "bytes", 1, 104, 14);
        x.due(6, "reference", 1, 105, 19, 1);
        return x;
    }

    private static void attribute() {
        Run x = attributes();
        long[][] due = {{100, 6, 0}, {101, 8, 4}, {102, 21, 0}, {103, 10, 2}, {104, 14, 4}, {105, 19, 0}};
        for (int k = 0; k < due.length; k++) {
            for (int what = 0; what < 3; what++) {
                x.due(due[k][what], "attribute", 1, k, what);
            }
        }
        x.due(Run.OUT_OF_BOUNDS, "attribute", 1, 6, 0);
        x.due(Run.OUT_OF_BOUNDS, "attribute", 1, -1, 0);
        x.due(Run.OUT_OF_BOUNDS, "attribute", 1, 0, 3);
        x.due(Run.OUT_OF_BOUNDS, "attribute", 1, 0, -1);
        x.due(Run.OUT_OF_BOUNDS, "attribute", 0, 0, 0);
        x.due(Run.OUT_OF_BOUNDS, "attribute", 6, 0, 0);
        x.due(Run.OUT_OF_BOUNDS, "attribute", -1, 0, 0);
    }

    private static void value() {
        Run x = attributes();
        long[] due = {4294967295L, 0, 5, 0, 0, 1};
        for (int k = 0; k < due.length; k++) {
            x.due(due[k], "value", 1, k);
        }
        x.due(Run.OUT_OF_BOUNDS, "value", 1, 6);
        x.due(Run.OUT_OF_BOUNDS, "value", 1, -1);
        x.due(Run.OUT_OF_BOUNDS, "value", 0, 0);
        x.due(Run.OUT_OF_BOUNDS, "value", 6, 0);
        x.due(Run.OUT_OF_BOUNDS, "value", -1, 0);
    }

    private static void letter() {
        Run x = attributes();
        x.due('t', "letter", 1, 1, 0);
        x.due('x', "letter", 1, 1, 2);
        x.due(Run.OUT_OF_BOUNDS, "letter", 1, 1, 4);
        x.due(Run.OUT_OF_BOUNDS, "letter", 1, 1, -1);
        x.due(0, "letter", 1, 3, 0);
        x.due(200, "letter", 1, 3, 1);
        x.due(Run.OUT_OF_BOUNDS, "letter", 1, 3, 2);
        x.due('k', "letter", 1, 4, 0);
        x.due(Run.OUT_OF_BOUNDS, "letter", 1, 0, 0);
        x.due(Run.OUT_OF_BOUNDS, "letter", 1, 2, 0);
        x.due(Run.OUT_OF_BOUNDS, "letter", 1, 6, 0);
        x.due(Run.OUT_OF_BOUNDS, "letter", 1, -1, 0);
        x.due(Run.OUT_OF_BOUNDS, "letter", 6, 0, 0);
        x.due(Run.OUT_OF_BOUNDS, "letter", -1, 0, 0);
    }

    private static void named(Run x, int entry, int name, int form, String text) {
        x.tape(text);
        x.due(x.answer("about", entry, 4) + 1, "bytes", entry, name, form);
    }

    private static void dueFound(Run x, int found, int entry, String text) {
        x.tape(text);
        x.due(found, "find", entry);
        x.due(Run.ARGUMENT, "end", 1);
    }

    private static void find() {
        Run x = new Run("24 find");
        x.due(0, "unit", 1);
        for (int e = 1; e <= 7; e++) {
            x.due(e, "entry", e == 7 ? 1 : 0, 1);
        }
        named(x, 1, 4, 8, "main");
        named(x, 1, 3, 10, "main");
        named(x, 2, 4, 14, "main");
        x.due(1, "number", 3, 3, 15, 7);
        named(x, 4, 1, 8, "other");
        named(x, 4, 3, 14, "main");
        named(x, 5, 3, 8, "main");
        named(x, 6, 3, 8, "");
        named(x, 7, 3, 8, "deep");
        dueFound(x, 4, 0, "main");
        dueFound(x, 6, 0, "");
        dueFound(x, -1, 0, "mai");
        dueFound(x, -1, 0, "mainx");
        dueFound(x, -1, 0, "deep");
        dueFound(x, 7, 1, "deep");
        dueFound(x, -1, 7, "deep");
        dueFound(x, -1, 0, "x".repeat(300));
        dueFound(x, -1, -1, "main");
        x.tape("main");
        x.due(Run.OUT_OF_BOUNDS, "find", 8);
        x.due(Run.OUT_OF_BOUNDS, "find", -2);
        x.due(4, "find", 0);
        x.due(6, "find", 0);
    }

    private static void findRoots() {
        Run x = new Run("24 roots");
        x.due(-1, "find", -1);
        for (int u = 0; u < 4; u++) {
            x.due(2 * u, "unit", 1);
            x.due(2 * u + 1, "entry", 2 * u, 1);
            named(x, 2 * u + 1, 3, 8, "u0");
        }
        named(x, 2, 3, 14, "u1");
        named(x, 4, 3, 8, "u0");
        named(x, 6, 3, 8, "u0");
        dueFound(x, 2, -1, "u1");
        dueFound(x, 4, -1, "u0");
        dueFound(x, -1, -1, "");
        dueFound(x, 5, 4, "u0");
        named(x, 0, 3, 8, "u0");
        dueFound(x, 0, -1, "u0");
    }

    private static void range(Run x, int entry, int form, long low, long high) {
        int before = x.answer("about", entry, 4);
        x.due(before + 1, "number", entry, 17, form, low);
        x.due(before + 2, "number", entry, 18, form, high);
    }

    private static void covers() {
        Run x = new Run("25 covers");
        x.due(-1, "covers", 0);
        x.due(0, "unit", 1);
        x.due(1, "entry", 0, 1);
        x.due(2, "entry", 0, 1);
        x.due(3, "entry", 1, 1);
        x.due(4, "entry", 2, 1);
        x.due(5, "unit", 1);
        range(x, 0, 7, 100, 200);
        range(x, 2, 7, 150, 160);
        range(x, 1, 7, 155, 170);
        x.due(-1, "covers", 99);
        x.due(0, "covers", 100);
        x.due(0, "covers", 149);
        x.due(2, "covers", 150);
        x.due(2, "covers", 154);
        x.due(1, "covers", 155);
        x.due(1, "covers", 169);
        x.due(0, "covers", 170);
        x.due(0, "covers", 199);
        x.due(-1, "covers", 200);
        // Those around it need not cover what an entry covers.
        range(x, 4, 6, 1000, 1001);
        x.due(4, "covers", 1000);
        x.due(-1, "covers", 1001);
        range(x, 3, 6, 0, 2000);
        x.due(3, "covers", 1000);
        range(x, 5, 6, 0, 3000);
        x.due(3, "covers", 1999);
        x.due(5, "covers", 2000);
    }

    private static void coversWithoutSign() {
        Run x = new Run("25 without sign");
        x.due(0, "unit", 1);
        range(x, 0, 13, Long.MAX_VALUE, -1);
        x.due(-1, "covers", Long.MAX_VALUE - 1);
        x.due(0, "covers", Long.MAX_VALUE);
        x.due(0, "covers", Long.MIN_VALUE);
        x.due(0, "covers", -2);
        x.due(-1, "covers", -1);
        x.due(-1, "covers", 0);
        x.due(1, "unit", 1);
        range(x, 1, 7, 5, 5);
        x.due(-1, "covers", 5);
        x.due(2, "unit", 1);
        range(x, 2, 7, -5, 5);
        x.due(-1, "covers", 0);
    }

    private static void coversForms() {
        Run x = new Run("25 forms");
        x.due(0, "unit", 1);
        x.due(1, "number", 0, 17, 12, 0);
        x.due(-1, "covers", 0);
        x.due(2, "number", 0, 18, 25, 1);
        x.due(0, "covers", 0);
        x.due(-1, "covers", 1);
        x.due(1, "unit", 1);
        x.due(1, "number", 1, 18, 15, 50);
        x.due(-1, "covers", 20);
        x.due(2, "number", 1, 17, 11, 20);
        x.due(1, "covers", 20);
        x.due(2, "unit", 1);
        x.due(3, "entry", 2, 1);
        x.due(1, "reference", 3, 17, 19, 2);
        x.due(2, "number", 3, 18, 5, 50);
        x.due(1, "covers", 20);
        x.due(4, "entry", 2, 1);
        x.due(1, "number", 4, 17, 5, 0);
        x.tape("zzz");
        x.due(2, "bytes", 4, 18, 10);
        x.due(1, "covers", 20);
        x.due(5, "entry", 2, 1);
        x.tape("a");
        x.due(1, "bytes", 5, 17, 8);
        x.due(2, "number", 5, 18, 6, 50);
        x.due(1, "covers", 20);
        x.due(6, "entry", 2, 1);
        range(x, 6, 5, 0, 50);
        x.due(6, "covers", 20);
    }
}
