import java.util.Arrays;
import java.util.List;

/** The sentences of "3 READ": what is right, the order of what is come to, and the eight kinds of faults. */
public final class SentencesOfReadTest extends Sentences {
    private static final String READ = "3 READ";
    private static final int[] ANY = unit(0, 1);
    /** Shape 1 of tag 17 has children, shape 2 of tag 18 has none. */
    private static final int[] NEST = {1, 17, 1, 0, 0, 2, 18, 0, 0, 0, 0};
    /** Just beyond 2147483647. */
    private static final int[] TOO_GREAT = {128, 128, 128, 128, 8};
    private static final int[] GREATEST = {255, 255, 255, 255, 7};

    public static void main(String[] args) {
        tell();
        testAll();
    }

    static void tell() {
        tellTrees();
        tellOrder();
        tellEndsTooSoon();
        tellHeaders();
        tellShapes();
        tellShapeAttributes();
        tellRows();
        tellEntries();
        tellValues();
        tellReferences();
        tellTooMuch();
    }

    private static void tellTrees() {
        sentence(READ, "The SECTIONS are read as trees: units one behind the other (none, too)", () -> {
            Run x = dueRead(0, row(), row(9, 9), row(9));
            x.due(0, "count", 1);
            x = dueRead(4, join(ANY, unit(0, 1), unit(0, 1), ANY), PLAIN);
            x.due(4, "count", 1);
            for (int u = 0; u < 4; u++) {
                x.due(u, "root", u);
                x.due(u, "about", u, 2);
            }
        });
        sentence(READ, "each has its shapes where its header says, until a number 0", () -> {
            int[] shapes = join(row(99, 99), PLAIN, row(1, 20, 0, 0, 0, 128, 0, 77));
            Run x = dueRead(2, join(unit(8, 1), unit(2, 1)), shapes);
            x.due(20, "about", 0, 0);
            x.due(17, "about", 1, 0);
        });
        sentence(READ, "each has its shapes where its header says, until a number 0", "numbers far apart", () -> {
            int[] shapes = row(1, 1, 1, 0, 0);
            int[] inside = row(1);
            for (int i = 1; i < 120; i++) {
                int[] number = row(128, 128 | i << 1 & 127, 128 | i >> 6, 128 | i % 3, i % 2);
                shapes = join(shapes, number, row(1 + i, 0, 0, 0));
                inside = join(inside, number);
            }
            Run x = dueRead(120, unit(0, join(inside, row(0))), join(shapes, row(0)));
            for (int i = 1; i < 120; i++) {
                x.due(1 + i, "about", i, 0);
            }
            dueFault(3, 1, shapes.length, ANY, join(shapes, row(1)));
            dueFault(3, 1, shapes.length, ANY, join(shapes, row(128, 130, 128, 129, 1)));
            dueFault(5, 0, 11, unit(0, 128, 130, 128, 1), join(shapes, row(0)));
        });
        String children = "children go on until a number 0, too";
        sentence(READ, children, () -> {
            Run x = dueRead(5, unit(0, 1, 2, 1, 2, 0, 2, 0), NEST);
            x.due(3, "about", 0, 3);
            x.due(1, "about", 2, 3);
            x.due(2, "about", 3, 1);
            x.due(0, "about", 4, 1);
        });
        sentence(READ, "(at once, perhaps", () -> {
            dueRead(1, unit(0, 1, 0), NEST).due(0, "about", 0, 3);
            Run x = dueRead(3, unit(0, 1, 1, 0, 1, 0, 0), NEST);
            x.due(2, "about", 0, 3);
            x.due(0, "about", 1, 3);
            // Such an entry has no children, and is written so.
            x.answer("write");
            x.dueSection(0, unit(0, 1, 2, 2, 0));
            x.dueSection(1, 1, 17, 1, 0, 0, 2, 17, 0, 0, 0, 0);
        });
        sentence(READ, "a 0 is a ROW like others, of more bytes than need be, too).", () -> {
            dueRead(2, unit(0, join(row(1, 2), times(9, 128), row(0))), NEST).due(1, "about", 0, 3);
            dueRead(1, ANY, row(1, 17, 0, 128, 0, 128, 128, 0, 128, 128, 128, 0));
            dueFault(5, 0, 11, unit(0, 128, 128, 0), PLAIN);
            dueFault(4, 0, 13, unit(0, join(row(1, 2), times(10, 128), row(0))), NEST);
        });
    }

    private static void tellOrder() {
        sentence(READ, "A FAULT: the first thing that is wrong, as it is come to, in this order for a unit:"
                + " its header;", () -> {
            dueFault(2, 0, 4, row(7, 0, 0, 0, 5, 0, 99, 0, 0, 0, 9), row(1, 0));
            dueFault(2, 0, 6, row(7, 0, 0, 0, 4, 0, 99, 0, 0, 0, 9), row(1, 0));
            dueFault(2, 0, 10, row(8, 0, 0, 0, 4, 0, 0, 0, 0, 0, 9, 9), row(1, 0));
        });
        sentence(READ, "its shapes from their beginning to their end", () -> {
            // The root's number is no shape's, but the shapes are wrong before, the last of them too.
            dueFault(3, 1, 6, unit(0, 9), row(1, 17, 0, 0, 0, 2, 0, 2, 0, 0, 0));
            dueFault(1, 1, 10, unit(0, 9), row(1, 17, 0, 0, 0, 2, 17, 0, 0, 0));
            dueFault(3, 1, 5, unit(0, 1), row(1, 17, 0, 0, 0, 1, 0, 2));
        });
        sentence(READ, "(if the unit before it has not the same place of shapes)", () -> {
            // The first unit's entries are wrong, and come before the second's shapes.
            int[] shapes = join(PLAIN, row(1, 0));
            dueFault(5, 0, 11, join(unit(0, 9), unit(6, 1)), shapes);
            dueFault(3, 1, 7, join(ANY, unit(6, 1)), shapes);
            int[] two = join(PLAIN, row(1, 20, 0, 0, 0, 0));
            Run x = dueRead(4, join(ANY, ANY, unit(6, 1), ANY), two);
            int[] tags = {17, 17, 20, 17};
            for (int e = 0; e < 4; e++) {
                x.due(tags[e], "about", e, 0);
            }
        });
        sentence(READ, "its entries; then its references in order.", () -> {
            int[] shapes = row(1, 17, 1, 2, 19, 0, 0, 2, 18, 0, 2, 12, 0, 0, 0);
            dueFault(6, 0, 17, unit(0, 1, 1, 1, 1, 1, 2, 2, 0), shapes);
            dueFault(5, 0, 17, unit(0, 1, 1, 1, 1, 1, 0, 0), shapes);
            dueFault(1, 0, 16, unit(0, 1, 1, 1, 1, 1), shapes);
            dueFault(7, 0, 12, unit(0, 1, 1, 1, 1, 1, 1, 1, 1, 1, 1, 0, 0), shapes);
            dueFault(7, 0, 17, unit(0, 1, 11, 0, 0, 0, 1, 1, 1, 1, 1, 0, 0), shapes);
            // A unit's references come before the next unit.
            dueFault(7, 0, 12, join(unit(0, 1, 1, 1, 1, 1, 0), row(1)), shapes);
        });
        sentence(READ, "It has a KIND, a SECTION, and a PLACE:", () -> {
            Run x = loaded(unit(0, 1, 2), NEST, NO_TEXTS);
            x.due(-1 - 13, "read");
            x.due(1, "fault", 0);
            x.due(0, "fault", 1);
            x.load(1, 1, 17, 2);
            x.due(-1 - 2, "read");
            x.due(3, "fault", 0);
            x.due(1, "fault", 1);
        });
    }

    private static void tellEndsTooSoon() {
        sentence(READ, "1 the section [..] ends too soon: where it ends", "section 0, in its first four bytes", () -> {
            for (int n = 1; n < 4; n++) {
                dueFault(1, 0, n, times(n, 0), PLAIN);
                dueFault(1, 0, 12 + n, join(ANY, times(n, 255)), PLAIN);
            }
        });
        sentence(READ, "1 the section [..] ends too soon: where it ends", "section 1, at each of its bytes", () -> {
            int[] shapes = row(129, 0, 17, 1, 129, 0, 11, 2, 139, 0, 0, 0, 0);
            for (int n = 0; n < shapes.length; n++) {
                dueFault(1, 1, n, ANY, Arrays.copyOf(shapes, n));
            }
            dueFault(1, 0, 12, ANY, shapes);
            dueFault(1, 1, 6, unit(6, 1), PLAIN);
        });
        sentence(READ, "(behind the first four bytes of a unit: the unit)", "at each of its bytes", () -> {
            // Shape 1: values of forms 5, 15 and 10; children. Behind the unit the section goes on.
            int[] shapes = row(1, 17, 1, 1, 5, 2, 15, 3, 10, 0, 0, 2, 18, 0, 0, 0, 0);
            int[] whole = unit(0, 1, 7, 7, 128, 0, 2, 7, 7, 2, 128, 0);
            for (int n = 4; n < whole.length; n++) {
                int[] cut = Arrays.copyOf(whole, n);
                cut[0] = n - 4;
                dueFault(1, 0, n, cut, shapes);
                dueFault(1, 0, n, join(cut, times(40, 0)), shapes);
                dueFault(1, 0, 12 + n, join(unit(17, 1), cut, times(40, 0)), join(shapes, PLAIN));
            }
            dueRead(2, whole, shapes);
        });
        sentence(READ, "(behind the first four bytes of a unit: the unit)", "within values of each form", () -> {
            int[] forms = {11, 5, 6, 7, 12, 14, 19};
            int[] widths = {1, 2, 4, 8, 1, 4, 4};
            for (int i = 0; i < forms.length; i++) {
                for (int n = 0; n < widths[i]; n++) {
                    dueBadValue(1, n, forms[i], times(n, 0));
                }
            }
            for (int form : new int[] {13, 15, 21}) {
                for (int n = 0; n < 10; n++) {
                    dueBadValue(1, n, form, times(n, 128));
                }
            }
            dueBadValue(1, 0, 10);
            dueBadValue(1, 3, 10, 3, 1, 1);
        });
        sentence(READ, "(a TEXT of form 8 without a byte 0, too).", () -> {
            dueBadValue(1, 0, 8);
            dueBadValue(1, 2, 8, 'a', 'b');
            dueBadValue(1, 255, 8, times(255, 'x'));
            // The next unit's bytes are none of its own.
            dueFault(1, 0, 14, join(unit(0, 1, 'a', 'b'), unit(0, 1, 0)), oneForm(8));
        });
    }

    private static void tellHeaders() {
        sentence(READ, "2 a header: how many that go beyond the section, at its first byte", () -> {
            dueFault(2, 0, 0, row(1, 0, 0, 0), PLAIN);
            dueFault(2, 0, 0, row(9, 0, 0, 0, 4, 0, 0, 0, 0, 0, 8, 1), PLAIN);
            dueFault(2, 0, 0, row(8, 1, 0, 0, 4, 0, 0, 0, 0, 0, 8, 1), PLAIN);
            dueFault(2, 0, 0, row(8, 0, 0, 128, 4, 0, 0, 0, 0, 0, 8, 1), PLAIN);
            dueFault(2, 0, 0, row(255, 255, 255, 255, 4, 0, 0, 0, 0, 0, 8, 1), PLAIN);
            dueFault(2, 0, 12, join(ANY, row(9, 0, 0, 0, 4, 0, 0, 0, 0, 0, 8, 1)), PLAIN);
            dueFault(2, 0, 12, join(ANY, row(1, 0, 0, 0)), PLAIN);
        });
        sentence(READ, "not 4, or not 8, at it", "not 4", () -> {
            dueFault(2, 0, 4, row(8, 0, 0, 0, 5, 0, 0, 0, 0, 0, 8, 1), PLAIN);
            dueFault(2, 0, 4, row(8, 0, 0, 0, 3, 0, 0, 0, 0, 0, 8, 1), PLAIN);
            dueFault(2, 0, 4, row(8, 0, 0, 0, 4, 1, 0, 0, 0, 0, 8, 1), PLAIN);
            dueFault(2, 0, 16, join(ANY, row(8, 0, 0, 0, 0, 4, 0, 0, 0, 0, 8, 1)), PLAIN);
        });
        sentence(READ, "not 4, or not 8, at it", "not 8", () -> {
            for (int size : new int[] {0, 4, 7, 9, 136, 255}) {
                dueFault(2, 0, 10, row(8, 0, 0, 0, 4, 0, 0, 0, 0, 0, size, 1), PLAIN);
            }
            dueFault(2, 0, 22, join(ANY, row(8, 0, 0, 0, 4, 0, 0, 0, 0, 0, 7, 1)), PLAIN);
        });
        sentence(READ, "a place of shapes beyond the section, at its first byte.", () -> {
            dueFault(2, 0, 6, unit(7, 1), PLAIN);
            dueFault(2, 0, 6, unit(256, 1), PLAIN);
            dueFault(2, 0, 6, row(8, 0, 0, 0, 4, 0, 0, 0, 0, 128, 8, 1), PLAIN);
            dueFault(2, 0, 6, row(8, 0, 0, 0, 4, 0, 255, 255, 255, 255, 8, 1), PLAIN);
            dueFault(2, 0, 18, join(ANY, unit(7, 1)), PLAIN);
            // Where the section ends is not beyond it: the shapes end too soon.
            dueFault(1, 1, 6, unit(6, 1), PLAIN);
            dueFault(1, 1, 0, unit(0, 1), row());
            dueFault(2, 0, 6, unit(1, 1), row());
        });
    }

    private static void tellShapes() {
        sentence(READ, "3 a shape's number that is told twice in its table [..] at its first byte;", () -> {
            dueFault(3, 1, 5, ANY, row(1, 17, 0, 0, 0, 1, 17, 0, 0, 0, 0));
            dueFault(3, 1, 10, ANY, row(1, 17, 0, 0, 0, 2, 17, 0, 0, 0, 129, 0, 9, 0, 0, 0, 0));
            dueFault(3, 1, 5, ANY, row(1, 17, 0, 0, 0, 1));
            // In another table it may be told again.
            dueRead(2, join(ANY, unit(6, 1)), join(PLAIN, PLAIN));
        });
        sentence(READ, "a TAG or NAME that is none [..] at its first byte;", "a TAG", () -> {
            dueFault(3, 1, 1, ANY, row(1, 0, 0, 0, 0, 0));
            dueFault(3, 1, 1, ANY, row(1, 128, 0, 0, 0, 0, 0));
            dueFault(3, 1, 1, ANY, row(1, 128, 128, 1, 0, 0, 0, 0));
            dueFault(3, 1, 1, ANY, join(row(1), GREATEST, row(0, 0, 0, 0)));
            dueFault(3, 1, 1, ANY, row(1, 0));
            dueRead(1, ANY, row(1, 255, 127, 0, 0, 0, 0)).due(16383, "about", 0, 0);
            dueRead(1, ANY, row(1, 1, 0, 0, 0, 0)).due(1, "about", 0, 0);
        });
        sentence(READ, "a TAG or NAME that is none [..] at its first byte;", "a NAME", () -> {
            dueFault(3, 1, 3, ANY, row(1, 17, 0, 128, 128, 1, 25, 0, 0, 0));
            dueFault(3, 1, 3, ANY, join(row(1, 17, 0), GREATEST, row(25, 0, 0, 0)));
            dueFault(3, 1, 3, ANY, row(1, 17, 0, 128, 128, 1));
            dueRead(1, ANY, row(1, 17, 0, 255, 127, 25, 1, 25, 0, 0, 0)).due(16383, "attribute", 0, 0, 0);
        });
        sentence(READ, "a byte that is neither 0 nor 1", () -> {
            for (int octet : new int[] {2, 127, 128, 129, 255}) {
                dueFault(3, 1, 2, ANY, row(1, 17, octet, 0, 0, 0));
            }
            dueFault(3, 1, 2, ANY, row(1, 17, 2));
        });
        sentence(READ, "more than 200 shapes in a table: at its number.", () -> {
            dueRead(1, unit(0, 128 + 200 % 128, 1), table(200));
            dueFault(3, 1, 1200, unit(0, 1), table(201));
            dueFault(3, 1, 1200, unit(0, 1), Arrays.copyOf(table(201), 1202));
            dueRead(2, join(unit(0, 1), unit(1201, 1)), join(table(200), table(200)));
        });
    }

    private static void tellShapeAttributes() {
        sentence(READ, "a FORM that is none", () -> {
            List<Integer> forms = List.of(5, 6, 7, 8, 10, 11, 12, 13, 14, 15, 19, 21, 25);
            for (int form = 1; form < 64; form++) {
                if (forms.contains(form)) {
                    dueFault(1, 0, 11, row(7, 0, 0, 0, 4, 0, 0, 0, 0, 0, 8), oneForm(form));
                } else {
                    dueFault(3, 1, 4, ANY, oneForm(form));
                }
            }
            dueFault(3, 1, 4, ANY, row(1, 17, 0, 2, 133, 2, 0, 0, 0));
            dueFault(3, 1, 4, ANY, join(row(1, 17, 0, 2), GREATEST, row(0, 0, 0)));
        });
        sentence(READ, "(a 0 of FORM alone", () -> {
            dueFault(3, 1, 4, ANY, row(1, 17, 0, 5, 0, 0, 0, 0));
            dueFault(3, 1, 6, ANY, row(1, 17, 0, 4, 25, 5, 128, 0, 0, 0, 0));
        });
        sentence(READ, "or of NAME alone, when its FORM was read, too)", () -> {
            dueFault(3, 1, 3, ANY, row(1, 17, 0, 0, 25, 0, 0, 0));
            dueFault(3, 1, 3, ANY, row(1, 17, 0, 128, 0, 25, 0, 0, 0));
            dueFault(3, 1, 5, ANY, row(1, 17, 0, 5, 25, 0, 25, 0, 0, 0));
            // Its FORM comes first, when that ends too soon or is too long or too great.
            dueFault(1, 1, 4, ANY, row(1, 17, 0, 0));
            dueFault(1, 1, 5, ANY, row(1, 17, 0, 0, 128));
            dueFault(4, 1, 4, ANY, join(row(1, 17, 0, 0), times(10, 128)));
            dueFault(4, 1, 4, ANY, join(row(1, 17, 0, 0), TOO_GREAT));
        });
        sentence(READ, "a NAME told twice [..] (both before its FORM): at its first byte;", () -> {
            dueFault(3, 1, 5, ANY, row(1, 17, 0, 5, 25, 5, 25, 0, 0, 0));
            dueFault(3, 1, 7, ANY, row(1, 17, 0, 5, 25, 6, 25, 133, 0, 25, 0, 0, 0));
            dueFault(3, 1, 5, ANY, row(1, 17, 0, 5, 25, 5));
            dueFault(3, 1, 5, ANY, join(row(1, 17, 0, 5, 25, 5), TOO_GREAT));
            // In another shape it may be told again.
            dueRead(1, ANY, row(1, 17, 0, 5, 25, 0, 0, 2, 17, 0, 5, 25, 0, 0, 0));
        });
        sentence(READ, "a ninth (both before its FORM): at its first byte;", () -> {
            int[] eight = row(1, 17, 0, 1, 25, 2, 25, 3, 25, 4, 25, 5, 25, 6, 25, 7, 25, 8, 25);
            dueRead(1, ANY, join(eight, row(0, 0, 0))).due(8, "about", 0, 4);
            dueFault(3, 1, 19, ANY, join(eight, row(9, 25, 0, 0, 0)));
            dueFault(3, 1, 19, ANY, join(eight, row(9)));
            dueFault(3, 1, 19, ANY, join(eight, row(9), TOO_GREAT));
        });
    }

    private static void tellRows() {
        sentence(READ, "4 a row that is too long", () -> {
            int[] eleven = join(row(129), times(9, 128), row(0));
            dueFault(4, 1, 0, ANY, join(eleven, row(17, 0, 0, 0, 0)));
            dueFault(4, 1, 1, ANY, join(row(1), eleven, row(0, 0, 0, 0)));
            dueFault(4, 1, 3, ANY, join(row(1, 17, 0), eleven, row(25, 0, 0, 0)));
            dueFault(4, 1, 4, ANY, join(row(1, 17, 0, 2), eleven, row(0, 0, 0)));
            dueFault(4, 0, 11, unit(0, eleven), PLAIN);
            dueFault(4, 0, 12, unit(0, join(row(1), eleven)), NEST);
            for (int form : new int[] {13, 15, 21}) {
                dueBadValue(4, 0, form, eleven);
                dueBadValue(4, 0, form, join(times(9, 128), row(1)));
            }
            // With ten bytes, or at the first wrong of them, no more need follow.
            dueFault(4, 1, 0, ANY, times(10, 128));
            int[] ten = join(row(129), times(8, 128), row(0));
            dueRead(1, unit(0, ten), join(ten, row(17, 0, 0, 0, 0)));
        });
        String great = "or too great (of numbers of shapes, TAGS, NAMES, FORMS, and of form 21: above 2147483647):"
                + " at its first byte.";
        sentence(READ, great, "numbers of shapes", () -> {
            dueRead(1, unit(0, GREATEST), join(GREATEST, row(17, 0, 0, 0, 0)));
            dueFault(4, 1, 0, ANY, join(TOO_GREAT, row(17, 0, 0, 0, 0)));
            dueFault(4, 1, 5, ANY, join(row(1, 17, 0, 0, 0), TOO_GREAT, row(17, 0, 0, 0, 0)));
            dueFault(5, 0, 11, unit(0, GREATEST), PLAIN);
            dueFault(4, 0, 11, unit(0, TOO_GREAT), PLAIN);
            dueFault(4, 0, 11, unit(0, 129, 128, 128, 128, 16), PLAIN);
            dueFault(4, 0, 11, unit(0, join(row(129), times(7, 128), row(64))), PLAIN);
            dueFault(4, 0, 13, unit(0, join(row(1, 2), TOO_GREAT)), NEST);
        });
        sentence(READ, great, "TAGS", () -> {
            dueFault(4, 1, 1, ANY, join(row(1), TOO_GREAT, row(0, 0, 0, 0)));
            dueFault(3, 1, 1, ANY, join(row(1), GREATEST, row(0, 0, 0, 0)));
            dueFault(4, 1, 1, ANY, join(row(1), row(145, 128, 128, 128, 16), row(0, 0, 0, 0)));
        });
        sentence(READ, great, "NAMES", () -> {
            dueFault(4, 1, 3, ANY, join(row(1, 17, 0), TOO_GREAT, row(25, 0, 0, 0)));
            dueFault(3, 1, 3, ANY, join(row(1, 17, 0), GREATEST, row(25, 0, 0, 0)));
            dueFault(4, 1, 3, ANY, join(row(1, 17, 0), row(130, 128, 128, 128, 16), row(25, 0, 0, 0)));
        });
        sentence(READ, great, "FORMS", () -> {
            dueFault(4, 1, 4, ANY, join(row(1, 17, 0, 2), TOO_GREAT, row(0, 0, 0)));
            dueFault(3, 1, 4, ANY, join(row(1, 17, 0, 2), GREATEST, row(0, 0, 0)));
            dueFault(4, 1, 4, ANY, join(row(1, 17, 0, 2), row(139, 128, 128, 128, 16), row(0, 0, 0)));
        });
        sentence(READ, great, "form 21, but not form 15 or 13", () -> {
            dueBadValue(4, 0, 21, TOO_GREAT);
            dueBadValue(7, 0, 21, GREATEST);
            dueBadValue(4, 0, 21, 139, 128, 128, 128, 16);
            dueValue(1L << 31, 15, TOO_GREAT);
            dueValue(1L << 31, 13, TOO_GREAT);
        });
    }

    private static void tellEntries() {
        sentence(READ, "5 an entry's number that is no shape's of the unit, at its first byte", () -> {
            dueFault(5, 0, 11, unit(0, 2), PLAIN);
            dueFault(5, 0, 11, unit(0, 130, 0), PLAIN);
            dueFault(5, 0, 13, unit(0, 1, 2, 3, 0), NEST);
            dueFault(5, 0, 11, unit(0, 1), row(0));
            // Shape 2 is the first unit's alone.
            dueFault(5, 0, 24, join(unit(0, 1, 0), unit(11, 2)), join(NEST, PLAIN));
        });
        sentence(READ, "a ROOT that is 0 likewise", () -> {
            dueFault(5, 0, 11, unit(0, 0), PLAIN);
            dueFault(5, 0, 11, unit(0, 128, 128, 0), PLAIN);
            dueFault(5, 0, 11, unit(0, 0), NEST);
            dueFault(5, 0, 23, join(ANY, unit(0, 0)), PLAIN);
        });
        sentence(READ, "bytes behind the root's end within the unit: at the first of them.", () -> {
            dueFault(5, 0, 12, unit(0, 1, 0), PLAIN);
            dueFault(5, 0, 12, unit(0, 1, 1, 1), PLAIN);
            dueFault(5, 0, 14, unit(0, 1, 2, 0, 0), NEST);
            dueFault(5, 0, 24, join(ANY, unit(0, 1, 128)), PLAIN);
        });
    }

    private static void tellValues() {
        sentence(READ, "6 a value that may not be (12;", () -> {
            for (int octet : new int[] {2, 127, 128, 129, 255}) {
                dueBadValue(6, 0, 12, octet);
            }
            dueValue(0, 12, 0);
            dueValue(1, 12, 1);
        });
        sentence(READ, "a TEXT or BLOCK that is too long", () -> {
            dueBadValue(6, 0, 8, join(times(256, 'x'), row(0)));
            dueBadValue(6, 0, 8, join(times(300, 'x'), row(0)));
            dueValue(0, 8, join(times(255, 'x'), row(0))).due(255, "attribute", 0, 0, 2);
            dueValue(0, 10, join(row(255), times(255, 0))).due(255, "attribute", 0, 0, 2);
        });
        sentence(READ, "a place of a text beyond the section", () -> {
            int[] texts = row('a', 0, 'b', 0);
            dueFault(6, 0, 12, unit(0, 1, 4, 0, 0, 0), oneForm(14), texts);
            dueFault(6, 0, 12, unit(0, 1, 5, 0, 0, 0), oneForm(14), texts);
            dueFault(6, 0, 12, unit(0, 1, 0, 0, 0, 128), oneForm(14), texts);
            dueFault(6, 0, 12, unit(0, 1, 255, 255, 255, 255), oneForm(14), texts);
            dueFault(6, 0, 12, unit(0, 1, 0, 0, 0, 0), oneForm(14));
            dueLetters(dueRead(1, unit(0, 1, 2, 0, 0, 0), oneForm(14), texts), 0, 0, 'b');
            dueLetters(dueRead(1, unit(0, 1, 3, 0, 0, 0), oneForm(14), texts), 0, 0);
        });
        sentence(READ, "or of one that does not end", () -> {
            int[] texts = row('a', 0, 'b', 'c');
            dueFault(6, 0, 12, unit(0, 1, 2, 0, 0, 0), oneForm(14), texts);
            dueFault(6, 0, 12, unit(0, 1, 3, 0, 0, 0), oneForm(14), texts);
            dueFault(6, 0, 12, unit(0, 1, 0, 0, 0, 0), oneForm(14), times(300, 'x'));
            dueLetters(dueRead(1, unit(0, 1, 0, 0, 0, 0), oneForm(14), texts), 0, 0, 'a');
        });
        sentence(READ, "or is too long), at its first byte.", () -> {
            int[] texts = join(times(256, 'x'), row(0));
            dueFault(6, 0, 12, unit(0, 1, 0, 0, 0, 0), oneForm(14), texts);
            dueRead(1, unit(0, 1, 1, 0, 0, 0), oneForm(14), texts).due(255, "attribute", 0, 0, 2);
        });
    }

    private static void tellReferences() {
        String reference = "7 a reference that is no entry's place of the unit, at its first byte.";
        int[] shapes = row(1, 17, 1, 2, 19, 0, 0, 2, 18, 0, 2, 21, 3, 11, 0, 0, 0);
        sentence(READ, reference, "of form 19", () -> {
            for (int[] place : new int[][] {{10, 0, 0, 0}, {12, 0, 0, 0}, {0, 0, 0, 0}, {19, 0, 0, 0},
                {11, 1, 0, 0}, {11, 0, 0, 128}, {255, 255, 255, 255}}) {
                dueFault(7, 0, 12, unit(0, join(row(1), place, row(2, 11, 5, 0))), shapes);
            }
            Run x = dueRead(2, unit(0, 1, 16, 0, 0, 0, 2, 11, 5, 0), shapes);
            x.due(1, "value", 0, 0);
            x.due(0, "value", 1, 0);
        });
        sentence(READ, reference, "of form 21", () -> {
            for (int[] place : new int[][] {{15}, {17}, {0}, {139, 1}, {255, 255, 255, 255, 7}}) {
                dueFault(7, 0, 17, unit(0, join(row(1, 16, 0, 0, 0, 2), place, row(5, 0))), shapes);
            }
            Run x = dueRead(2, unit(0, 1, 11, 0, 0, 0, 2, 144, 128, 0, 5, 0), shapes);
            x.due(0, "value", 0, 0);
            x.due(1, "value", 1, 0);
        });
        sentence(READ, reference, "of an entry that was read before", () -> {
            Run x = dueRead(5, unit(0, 1, 11, 0, 0, 0, 2, 11, 5, 2, 11, 5, 2, 11, 5, 2, 11, 5, 0), shapes);
            for (int place = 19; place <= 25; place += 3) {
                x.load(0, unit(0, 1, place, 0, 0, 0, 2, 11, 5, 0));
                x.dueFault(7, 0, 12);
            }
            int[] nest = row(1, 17, 1, 2, 19, 0, 0, 2, 18, 0, 0, 0, 0);
            dueRead(400, unit(0, join(row(1, 158, 1, 0, 0), times(399, 2), row(0))), nest).due(399, "value", 0, 0);
            dueFault(7, 0, 12, unit(0, join(row(1, 159, 1, 0, 0), times(399, 2), row(0))), nest);
        });
        sentence(READ, reference, "of another unit", () -> {
            int[] one = unit(0, 1, 16, 0, 0, 0, 2, 11, 5, 0);
            Run x = dueRead(4, join(one, one), shapes);
            x.due(3, "value", 2, 0);
            x.due(2, "value", 3, 0);
            dueFault(7, 0, one.length + 12,
                    join(one, unit(0, 1, 11 + one.length, 0, 0, 0, 2, 11, 5, 0)), shapes);
            dueFault(7, 0, 12, join(unit(0, 1, 11 + one.length, 0, 0, 0, 2, 11, 5, 0), one), shapes);
        });
    }

    private static void tellTooMuch() {
        sentence(READ, "8 too much: a seventh unit, at its first byte (before its header)", () -> {
            dueRead(6, times(6, ANY), PLAIN);
            dueFault(8, 0, 72, times(7, ANY), PLAIN);
            dueFault(8, 0, 72, join(times(6, ANY), row(9)), PLAIN);
            dueFault(8, 0, 72, join(times(6, ANY), times(11, 255)), PLAIN);
        });
        int[] shapes = row(1, 17, 1, 0, 0, 2, 18, 0, 0, 0, 3, 18, 0, 2, 11, 0, 0, 0);
        sentence(READ, "a 401st entry [..] at its first byte (when it has a shape)", () -> {
            int[] most = join(row(1), times(399, 2));
            dueRead(400, unit(0, join(most, row(0))), shapes);
            dueFault(8, 0, 411, unit(0, join(most, row(2, 0))), shapes);
            dueFault(8, 0, 411, unit(0, join(most, row(130, 0, 0))), shapes);
            dueFault(8, 0, 411, unit(0, join(most, row(3))), shapes);
            dueFault(5, 0, 411, unit(0, join(most, row(4))), shapes);
            dueFault(8, 0, 412 + 11, join(unit(0, join(most, row(0))), unit(0, 2)), shapes);
        });
        sentence(READ, "one within more than 30 others, at its first byte (when it has a shape)", () -> {
            dueRead(31, unit(0, join(times(30, 1), row(2), times(30, 0))), shapes).due(29, "about", 30, 1);
            dueRead(31, unit(0, join(times(31, 1), times(31, 0))), shapes);
            dueFault(8, 0, 42, unit(0, join(times(31, 1), row(2), times(31, 0))), shapes);
            dueFault(8, 0, 42, unit(0, join(times(31, 1), row(3))), shapes);
            dueFault(5, 0, 42, unit(0, join(times(31, 1), row(4))), shapes);
        });
        String letters = "TEXTS and BLOCKS of more than 30000 bytes, at the value's first byte (when it is right).";
        for (int form : new int[] {8, 14, 10}) {
            sentence(READ, letters, "the last of form " + form, () -> tooManyLetters(form));
        }
    }

    /** 117 texts of 255 bytes and one of 165 are 30000. */
    private static void tooManyLetters(int form) {
        int[] shapes = row(1, 1, 1, 0, 0, 2, 1, 0, 1, 14, 0, 0, 3, 1, 0, 1, form, 0, 0, 0);
        int[] texts = join(times(255, 't'), row(0));
        int[] most = join(row(1), times(117, 2, 0, 0, 0, 0), row(2, 90, 0, 0, 0));
        int[] none = form == 14 ? row(255, 0, 0, 0) : row(0);
        int[] one = form == 14 ? row(254, 0, 0, 0) : form == 8 ? row('a', 0) : row(1, 'a');
        int[] wrong = form == 14 ? row(0, 1, 0, 0) : form == 8 ? join(times(256, 'x'), row(0)) : row(9, 'a');
        int at = 11 + most.length;
        dueRead(120, unit(0, join(most, row(3), none, row(0))), shapes, texts);
        dueFault(8, 0, at + 1, unit(0, join(most, row(3), one, row(0))), shapes, texts);
        int kind = form == 10 ? 1 : 6;
        dueFault(kind, 0, form == 10 ? at + 3 : at + 1, unit(0, join(most, row(3), wrong)), shapes, texts);
        // Those of all units together.
        int[] first = unit(0, join(most, row(0)));
        dueFault(8, 0, first.length + 12, join(first, unit(0, join(row(3), one))), shapes, texts);
        dueRead(120, join(first, unit(0, join(row(3), none))), shapes, texts);
    }
}
