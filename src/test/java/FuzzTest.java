import java.util.ArrayList;
import java.util.Arrays;
import java.util.List;
import java.util.Random;

/** Long runs of drawn calls on the class and on the plain model of the document: both must answer alike. */
public final class FuzzTest {
    private static final int[] NUMBER_FORMS = {5, 6, 7, 11, 12, 13, 15, 25};
    private static final int[] ALL_FORMS = {5, 6, 7, 8, 10, 11, 12, 13, 14, 15, 19, 21, 25};
    private static final long[] EDGES = {0, 1, 2, 63, 64, 127, 128, 255, 256, 8191, 8192, 16383, 16384, 65535, 65536,
        4294967295L, 4294967296L, Long.MAX_VALUE, -1, -2, -64, -65, -128, -129, Long.MIN_VALUE};

    /** How often drawn sections were right (0), or had a fault of each kind. */
    private static final int[] kindsSeen = new int[9];

    private final Random random;
    private final Run real;
    private final Run model;

    private FuzzTest(int seed) {
        random = new Random(seed);
        real = new Run("seed " + seed);
        model = new Run("seed " + seed, new Model());
    }

    public static void main(String[] args) {
        int most = args.length > 0 ? Integer.parseInt(args[0]) : 600;
        for (int seed = 0; seed < most && !Run.anyWrong(); seed++) {
            FuzzTest fuzz = new FuzzTest(seed);
            switch (seed % 4) {
                case 0 -> fuzz.callAnything(400);
                case 1 -> fuzz.buildWriteHurtRead();
                case 2 -> fuzz.growReferences();
                default -> fuzz.readDrawnSections();
            }
        }
        System.out.println("drawn sections by the kinds of their faults: " + Arrays.toString(kindsSeen));
        for (int kind = 0; kind < kindsSeen.length; kind++) {
            Run.same("kind " + kind + " was drawn", kindsSeen[kind] > 0, true);
        }
        Run.finish();
    }

    private String both(String name, long... args) {
        String want = model.call(name, args);
        real.due(want, name, args);
        return want;
    }

    private void compareAll() {
        Run.same("picture", real.picture(), model.picture());
        for (int s = 0; s < 3; s++) {
            Run.same("section " + s, Arrays.toString(real.section(s)), Arrays.toString(model.section(s)));
        }
    }

    private int draw(int below) {
        return random.nextInt(below);
    }

    private int entryOrWrong() {
        int entries = model.answer("count", 0);
        return draw(20) == 0 ? entries + draw(3) - 1 : draw(30) == 0 ? -1 - draw(2) : entries == 0 ? 0 : draw(entries);
    }

    private int code() {
        return switch (draw(24)) {
            case 0 -> 0;
            case 1 -> 16384;
            case 2 -> 16383;
            case 3 -> -1;
            case 4 -> 128;
            default -> 1 + draw(6);
        };
    }

    private int nameOfAttribute() {
        return switch (draw(6)) {
            case 0 -> 3;
            case 1 -> 17;
            case 2 -> 18;
            default -> code();
        };
    }

    private long edge() {
        return EDGES[draw(EDGES.length)] + draw(3) - 1;
    }

    private long[] fillTape() {
        both("end", 0);
        int length = draw(8) == 0 ? draw(300) : draw(3);
        for (int i = 0; i < length; i += 20) {
            int letter = draw(4) == 0 ? random.nextInt() : 0x61616161 + draw(2);
            both("feed", letter, letter, letter, letter, letter);
        }
        return new long[] {length};
    }

    private void anyCall() {
        int e = entryOrWrong();
        switch (draw(26)) {
            case 0 -> both("unit", code());
            case 1, 2, 3 -> both("entry", e, code());
            case 4, 5 -> both("number", e, nameOfAttribute(), NUMBER_FORMS[draw(8)], edge());
            case 6 -> both("number", e, nameOfAttribute(), draw(30), draw(2));
            case 7, 8 -> {
                both("end", fillTape());
                both("bytes", e, nameOfAttribute(), new int[] {8, 14, 10, 14, 8, 11}[draw(6)]);
            }
            case 9, 10 -> both("reference", e, nameOfAttribute(), new int[] {19, 21, 21, 21, 13}[draw(5)],
                    entryOrWrong());
            case 11 -> both(draw(20) == 0 ? "clear" : "write");
            case 12 -> both("size", draw(5) - 1);
            case 13 -> both("octet", draw(5) - 1, draw(80) - 1);
            case 14 -> {
                both("end", fillTape());
                if (draw(10) == 0) {
                    both("load", draw(5) - 1);
                }
            }
            case 15 -> {
                if (draw(3) == 0) {
                    both("alter", draw(5) - 1, draw(60) - 1, random.nextInt());
                }
            }
            case 16 -> both("read");
            case 17 -> both("fault", draw(4) - 1);
            case 18 -> both("count", draw(6) - 1);
            case 19 -> both("about", e, draw(8) - 1);
            case 20 -> both("child", e, draw(5) - 1);
            case 21 -> both("root", draw(8) - 1);
            case 22 -> both("attribute", e, draw(5) - 1, draw(5) - 1);
            case 23 -> {
                both("value", e, draw(5) - 1);
                both("letter", e, draw(5) - 1, draw(5) - 1);
            }
            case 24 -> {
                both("end", fillTape());
                both("find", draw(2) == 0 ? -1 : e);
            }
            default -> both("covers", edge());
        }
    }

    private void callAnything(int calls) {
        for (int i = 0; i < calls; i++) {
            anyCall();
        }
        compareAll();
    }

    private void build(int entries) {
        both("unit", 1 + draw(3));
        for (int i = 0; i < entries; i++) {
            if (draw(20) == 0) {
                both("unit", 1 + draw(3));
            } else {
                int last = model.answer("count", 0) - 1;
                both("entry", draw(2) == 0 ? last : draw(last + 1), 1 + draw(3));
            }
            int e = draw(model.answer("count", 0));
            for (int k = draw(4); k > 0; k--) {
                addDrawn(e);
            }
        }
    }

    private void addDrawn(int e) {
        int name = draw(3) == 0 ? nameOfAttribute() : 1 + draw(20);
        int form = ALL_FORMS[draw(13)];
        if (form == 19 || form == 21) {
            both("reference", e, name, form, entryOrWrong());
        } else if (form == 8 || form == 14 || form == 10) {
            both("end", fillTape());
            both("bytes", e, name, form);
        } else {
            both("number", e, name, form, edge());
        }
    }

    private void buildWriteHurtRead() {
        build(3 + draw(40));
        compareAll();
        both("write");
        for (int i = 0; i < 25; i++) {
            hurt();
            both("read");
            both("fault", 0);
            both("fault", 1);
            if (draw(6) == 0) {
                both("write");
            }
        }
        compareAll();
    }

    private void hurt() {
        int section = draw(3) == 0 ? draw(3) : draw(2);
        int size = model.answer("size", section);
        if (size == 0) {
            return;
        }
        if (draw(5) == 0) {
            int[] octets = model.section(section);
            reload(section, Arrays.copyOf(octets, draw(octets.length)));
            return;
        }
        int place = draw(3) == 0 ? draw(Math.min(size, 16)) : draw(size);
        both("alter", section, place, draw(2) == 0 ? 1 << draw(8) : random.nextInt());
    }

    private void reload(int section, int[] octets) {
        both("end", 0);
        for (int i = 0; i < octets.length; i += 20) {
            long[] words = new long[5];
            for (int b = 0; b < 20; b++) {
                words[b / 4] = (int) (words[b / 4] << 8 | (i + b < octets.length ? octets[i + b] : 0));
            }
            both("feed", words);
        }
        both("end", octets.length);
        both("load", section);
    }

    /** Many rows of references near the places where they grow. */
    private void growReferences() {
        both("unit", 1);
        int entries = 20 + draw(90);
        int tags = draw(3) == 0 ? 400 : 1;
        for (int i = 1; i < entries; i++) {
            both("entry", draw(3) == 0 ? i - 1 : draw(Math.min(i, 4)), 1 + draw(tags));
        }
        int most = model.answer("count", 0);
        for (int i = 0; i < most * 2; i++) {
            int e = draw(most);
            int to = draw(3) == 0 ? draw(most) : Math.min(most - 1, e + 1 + draw(4));
            both("reference", e, 1 + draw(9), draw(9) == 0 ? 19 : 21, to);
        }
        for (int i = draw(80); i > 0; i--) {
            both("end", 0);
            for (int f = 0; f < 12; f++) {
                both("feed", 0x61626364, 0x61626364, 0x61626364, 0x61626364, 0x61626364);
            }
            both("bytes", draw(most), 20 + draw(8), 10);
        }
        for (int i = 0; i < 10; i++) {
            both("about", draw(most), 5);
        }
        both("write");
        compareAll();
        both("read");
        compareAll();
    }

    // ---- sections drawn by the document's grammar, with wrong things now and then

    private int wrongness;

    private boolean goWrong() {
        return wrongness > 0 && draw(wrongness) == 0;
    }

    private void addRow(List<Integer> out, long n) {
        List<Integer> row = new ArrayList<>(Model.row(n));
        pad(row, draw(6) == 0 ? 1 + draw(goWrong() ? 10 : 9) : 0, 0);
        out.addAll(row);
    }

    private void pad(List<Integer> row, int more, int with) {
        for (int i = 0; i < more && (row.size() < 10 || goWrong()); i++) {
            row.set(row.size() - 1, row.get(row.size() - 1) + 128);
            row.add(with);
        }
    }

    private static void addLow(List<Integer> out, long n, int width) {
        for (int i = 0; i < width; i++) {
            out.add((int) (n >> 8 * i & 255));
        }
    }

    private record Drawn(int number, int tag, boolean children, List<int[]> attributes) { }

    private int wrongOr(int right, int... wrong) {
        return goWrong() ? wrong[draw(wrong.length)] : right;
    }

    private List<Drawn> drawTable(List<Integer> out) {
        List<Drawn> shapes = new ArrayList<>();
        int many = goWrong() ? 201 : 1 + draw(6);
        for (int i = 0; i < many; i++) {
            int number = draw(4) == 0 ? 1 + draw(1 << 20) : i + 1;
            Drawn shape = new Drawn(number, wrongOr(1 + draw(300), 0, 16384, 16383), draw(2) == 0, new ArrayList<>());
            addRow(out, number);
            addRow(out, goWrong() ? 1L << 31 : shape.tag);
            out.add(wrongOr(shape.children ? 1 : 0, 2, 255, 128));
            for (int k = draw(5) == 0 ? draw(9) : draw(4); k > 0; k--) {
                int form = wrongOr(ALL_FORMS[draw(13)], 0, 9, 26, 1 << 20);
                int name = wrongOr(draw(3) == 0 ? 3 : k + 30 * draw(9), 0, 16384, 1, 2, 3);
                if (shape.attributes.stream().anyMatch(a -> a[0] == name) && !goWrong()) {
                    continue;
                }
                addRow(out, name);
                addRow(out, form);
                shape.attributes.add(new int[] {name, form});
            }
            addRow(out, goWrong() ? 5 : 0);
            addRow(out, goWrong() ? 11 : 0);
            shapes.add(shape);
        }
        addRow(out, 0);
        return shapes;
    }

    private final List<Integer> places = new ArrayList<>();
    private final List<int[]> holes = new ArrayList<>();

    private void drawEntry(List<Integer> out, int start, List<Drawn> shapes, int depth, int texts) {
        Drawn shape = shapes.get(draw(shapes.size()));
        for (int i = 0; i < 30 && depth == 0 && !shape.children; i++) {
            shape = shapes.get(draw(shapes.size()));
        }
        places.add(out.size() - start);
        addRow(out, goWrong() ? draw(9) : shape.number);
        for (int[] a : shape.attributes) {
            drawValue(out, a[1], texts);
        }
        if (shape.children) {
            int most = depth > 33 || places.size() > 420 ? 0 : depth == 0 && draw(6) == 0 ? draw(430) : draw(3);
            if (depth > 0 && draw(12) == 0) {
                most = Math.min(most, 1);
            }
            for (int i = 0; i < most; i++) {
                drawEntry(out, start, shapes, depth + 1, texts);
            }
            addRow(out, 0);
        }
    }

    private void drawValue(List<Integer> out, int form, int texts) {
        switch (form) {
            case 11 -> out.add(draw(256));
            case 12 -> out.add(wrongOr(draw(2), 2, 255));
            case 5 -> addLow(out, random.nextInt(), 2);
            case 6 -> addLow(out, random.nextInt(), 4);
            case 7 -> addLow(out, random.nextLong(), 8);
            case 13 -> {
                long n = edge();
                List<Integer> row = new ArrayList<>(Model.signedRow(n));
                pad(row, draw(10), n < 0 ? 127 : 0);
                out.addAll(row);
            }
            case 15 -> addRow(out, edge() & Long.MAX_VALUE);
            case 8 -> {
                for (int i = wrongOr(draw(4), 255, 256, 300); i > 0; i--) {
                    out.add(1 + draw(255));
                }
                out.add(0);
            }
            case 10 -> {
                int length = draw(5) == 0 ? draw(256) : draw(4);
                out.add(length);
                for (int i = 0; i < length; i++) {
                    out.add(draw(256));
                }
            }
            case 14 -> addLow(out, texts == 0 ? 0 : wrongOr(draw(texts), texts, texts + 1, -1, texts - 1), 4);
            case 19 -> {
                holes.add(new int[] {out.size(), 4});
                addLow(out, 0, 4);
            }
            case 21 -> {
                int size = 3 + draw(6);
                holes.add(new int[] {out.size(), -size});
                addLow(out, 0, size);
            }
            default -> { }
        }
    }

    private void fillHoles(List<Integer> out) {
        for (int[] hole : holes) {
            long place = goWrong() ? draw(60) : places.get(draw(places.size()));
            List<Integer> octets = new ArrayList<>();
            if (hole[1] > 0) {
                addLow(octets, place, 4);
            } else {
                octets.addAll(Model.row(place));
                while (octets.size() < -hole[1]) {
                    octets.set(octets.size() - 1, octets.get(octets.size() - 1) + 128);
                    octets.add(goWrong() ? 127 : 0);
                }
            }
            for (int i = 0; i < octets.size(); i++) {
                out.set(hole[0] + i, octets.get(i));
            }
        }
        holes.clear();
        places.clear();
    }

    private void readDrawnSections() {
        for (int i = 0; i < 12; i++) {
            wrongness = draw(3) == 0 ? 0 : 20 + draw(400);
            readDrawnOnce();
        }
        compareAll();
        both("write");
        both("read");
        compareAll();
    }

    private void readDrawnOnce() {
        List<Integer> entries = new ArrayList<>();
        List<Integer> shapes = new ArrayList<>();
        List<Integer> texts = new ArrayList<>();
        for (int i = draw(4); i > 0; i--) {
            for (int n = draw(20) == 0 ? 250 + draw(9) : draw(5); n > 0; n--) {
                texts.add(1 + draw(255));
            }
            texts.add(draw(30) == 0 ? 1 : 0);
        }
        List<Drawn> table = null;
        int tableAt = 0;
        for (int u = draw(15) == 0 ? 7 : draw(4); u > 0; u--) {
            if (table == null || draw(2) == 0) {
                tableAt = shapes.size();
                table = drawTable(shapes);
            }
            int start = entries.size();
            addLow(entries, 0, 4);
            addLow(entries, wrongOr(4, 5, 260), 2);
            addLow(entries, wrongOr(tableAt, shapes.size(), shapes.size() + 1, -1), 4);
            entries.add(wrongOr(8, 4));
            drawEntry(entries, start, table, 0, texts.size());
            fillHoles(entries);
            if (goWrong()) {
                entries.add(draw(3));
            }
            int follow = entries.size() - start - 4 + wrongOr(0, -1, 1, -3);
            for (int i = 0; i < 4; i++) {
                entries.set(start + i, follow >> 8 * i & 255);
            }
        }
        if (entries.size() > 11000 || shapes.size() > 8000 || texts.size() > 8000) {
            return;
        }
        reload(0, entries.stream().mapToInt(n -> n).toArray());
        reload(1, shapes.stream().mapToInt(n -> n).toArray());
        reload(2, texts.stream().mapToInt(n -> n).toArray());
        both("read");
        kindsSeen[model.answer("fault", 0)]++;
        both("fault", 0);
        both("fault", 1);
        Run.same("picture", real.picture(), model.picture());
    }

}
