import java.util.ArrayList;
import java.util.Arrays;
import java.util.HashSet;
import java.util.IdentityHashMap;
import java.util.LinkedHashMap;
import java.util.LinkedHashSet;
import java.util.List;
import java.util.Map;
import java.util.Set;

/** The document once more, with lists, maps and recursion and no thought of speed, to compare with. */
public final class Model {
    private static final Set<Integer> NUMBER_FORMS = Set.of(5, 6, 7, 11, 12, 13, 15, 25);
    private static final Set<Integer> LETTER_FORMS = Set.of(8, 14, 10);
    private static final Set<Integer> REFERENCE_FORMS = Set.of(19, 21);
    private static final int[] ROOM = {24000, 8000, 8000};

    private static final class Attribute {
        int name;
        int form;
        long value;
        List<Integer> letters = new ArrayList<>();
        Node to;
        int readAt;
    }

    private static final class Node {
        int tag;
        int unit;
        Node parent;
        List<Node> children = new ArrayList<>();
        List<Attribute> attributes = new ArrayList<>();

        int depth() {
            return parent == null ? 0 : 1 + parent.depth();
        }

        List<Object> shape() {
            List<Object> shape = new ArrayList<>(List.of(tag, !children.isEmpty()));
            for (Attribute a : attributes) {
                shape.add(List.of(a.name, a.form));
            }
            return shape;
        }

        Attribute named(int name) {
            for (Attribute a : attributes) {
                if (a.name == name) {
                    return a;
                }
            }
            return null;
        }
    }

    private static final class Fault extends Exception {
        private static final long serialVersionUID = 1;
        final int kind;
        final int section;
        final int place;

        Fault(int kind, int section, int place) {
            this.kind = kind;
            this.section = section;
            this.place = place;
        }
    }

    private List<Integer> tape = new ArrayList<>();
    private List<Node> nodes = new ArrayList<>();
    private List<Node> roots = new ArrayList<>();
    private final List<List<Integer>> sections = new ArrayList<>(List.of(List.of(), List.of(), List.of()));
    private int kind;
    private int faultSection;

    public int feed(int a, int b, int c, int d, int e) {
        if (tape.size() + 20 > 12000) {
            throw new IllegalStateException();
        }
        for (int word : new int[] {a, b, c, d, e}) {
            tape.addAll(List.of(word >>> 24, word >>> 16 & 255, word >>> 8 & 255, word & 255));
        }
        return tape.size();
    }

    public void end(int n) {
        if (n < 0 || n > tape.size()) {
            throw new IllegalArgumentException();
        }
        tape = new ArrayList<>(tape.subList(0, n));
    }

    public int unit(int tag) {
        needArgument(tag >= 1 && tag <= 16383);
        needSupport(roots.size() < 6 && nodes.size() < 400);
        Node node = new Node();
        node.tag = tag;
        node.unit = roots.size();
        roots.add(node);
        nodes.add(node);
        return nodes.size() - 1;
    }

    public int entry(int parent, int tag) {
        Node above = node(parent);
        needArgument(tag >= 1 && tag <= 16383);
        needSupport(nodes.size() < 400 && above.depth() < 30);
        Node node = new Node();
        node.tag = tag;
        node.parent = above;
        node.unit = above.unit;
        above.children.add(node);
        nodes.add(node);
        return nodes.size() - 1;
    }

    public int number(int entry, int name, int form, long value) {
        Node node = node(entry);
        needNew(node, name);
        needArgument(NUMBER_FORMS.contains(form));
        needArgument(switch (form) {
            case 11 -> value >= 0 && value < 256;
            case 5 -> value >= 0 && value < 65536;
            case 6 -> value >= 0 && value < 1L << 32;
            case 15 -> value >= 0;
            case 12 -> value == 0 || value == 1;
            case 25 -> value == 1;
            default -> true;
        });
        needSupport(node.attributes.size() < 8);
        Attribute a = new Attribute();
        a.name = name;
        a.form = form;
        a.value = value;
        node.attributes.add(a);
        return node.attributes.size();
    }

    public int bytes(int entry, int name, int form) {
        Node node = node(entry);
        needNew(node, name);
        needArgument(LETTER_FORMS.contains(form) && tape.size() <= 255);
        needArgument(form == 10 || !tape.contains(0));
        needSupport(node.attributes.size() < 8 && allLetters() + tape.size() <= 30000);
        Attribute a = new Attribute();
        a.name = name;
        a.form = form;
        a.letters = tape;
        node.attributes.add(a);
        tape = new ArrayList<>();
        return node.attributes.size();
    }

    public int reference(int entry, int name, int form, int to) {
        Node node = node(entry);
        Node target = node(to);
        if (node.unit != target.unit) {
            throw new IllegalStateException();
        }
        needNew(node, name);
        needArgument(REFERENCE_FORMS.contains(form));
        needSupport(node.attributes.size() < 8);
        Attribute a = new Attribute();
        a.name = name;
        a.form = form;
        a.to = target;
        node.attributes.add(a);
        return node.attributes.size();
    }

    public int clear() {
        int before = nodes.size();
        nodes = new ArrayList<>();
        roots = new ArrayList<>();
        return before;
    }

    public int write() {
        List<List<Integer>> written = written();
        for (int s = 0; s < 3; s++) {
            if (written.get(s).size() > ROOM[s]) {
                return -2;
            }
        }
        int sum = 0;
        for (int s = 0; s < 3; s++) {
            sections.set(s, written.get(s));
            sum += written.get(s).size();
        }
        return sum;
    }

    public int size(int section) {
        needBounds(section, 3);
        return sections.get(section).size();
    }

    public int octet(int section, int i) {
        needBounds(i, size(section));
        return sections.get(section).get(i);
    }

    public int load(int section) {
        needBounds(section, 3);
        needSupport(tape.size() <= ROOM[section]);
        sections.set(section, tape);
        tape = new ArrayList<>();
        return sections.get(section).size();
    }

    public int alter(int section, int i, int mask) {
        int octet = octet(section, i) ^ mask & 255;
        sections.set(section, new ArrayList<>(sections.get(section)));
        sections.get(section).set(i, octet);
        return octet;
    }

    public int read() {
        kind = 0;
        faultSection = 0;
        Trees trees = new Trees();
        try {
            trees.readAll();
        } catch (Fault fault) {
            kind = fault.kind;
            faultSection = fault.section;
            return -1 - fault.place;
        }
        nodes = trees.nodes;
        roots = trees.roots;
        return nodes.size();
    }

    public int fault(int what) {
        needBounds(what, 2);
        return what == 0 ? kind : faultSection;
    }

    public int count(int what) {
        needBounds(what, 4);
        Set<Object> shapes = new HashSet<>();
        Set<Object> texts = new HashSet<>();
        for (Node node : nodes) {
            shapes.add(node.shape());
            for (Attribute a : node.attributes) {
                if (a.form == 14) {
                    texts.add(a.letters);
                }
            }
        }
        return List.of(nodes.size(), roots.size(), shapes.size(), texts.size()).get(what);
    }

    public int about(int entry, int what) {
        Node node = node(entry);
        needBounds(what, 6);
        return switch (what) {
            case 0 -> node.tag;
            case 1 -> node.parent == null ? -1 : nodes.indexOf(node.parent);
            case 2 -> node.unit;
            case 3 -> node.children.size();
            case 4 -> node.attributes.size();
            default -> places().get(node);
        };
    }

    public int child(int entry, int k) {
        List<Node> children = node(entry).children;
        return k >= 0 && k < children.size() ? nodes.indexOf(children.get(k)) : -1;
    }

    public int root(int unit) {
        needBounds(unit, roots.size());
        return nodes.indexOf(roots.get(unit));
    }

    public int attribute(int entry, int k, int what) {
        Attribute a = attributeOf(entry, k);
        needBounds(what, 3);
        return what == 0 ? a.name : what == 1 ? a.form : a.letters.size();
    }

    public long value(int entry, int k) {
        Attribute a = attributeOf(entry, k);
        return a.to != null ? nodes.indexOf(a.to) : LETTER_FORMS.contains(a.form) ? 0 : a.value;
    }

    public int letter(int entry, int k, int i) {
        Attribute a = attributeOf(entry, k);
        needBounds(i, a.letters.size());
        return a.letters.get(i);
    }

    public int find(int entry) {
        List<Node> among = entry == -1 ? roots : node(entry).children;
        List<Integer> wanted = tape;
        tape = new ArrayList<>();
        for (Node node : among) {
            Attribute a = node.named(3);
            if (a != null && (a.form == 8 || a.form == 14) && a.letters.equals(wanted)) {
                return nodes.indexOf(node);
            }
        }
        return -1;
    }

    public int covers(long address) {
        Node best = null;
        for (Node node : nodes) {
            Attribute low = node.named(17);
            Attribute high = node.named(18);
            if (low != null && high != null && NUMBER_FORMS.contains(low.form) && NUMBER_FORMS.contains(high.form)
                    && Long.compareUnsigned(low.value, address) <= 0
                    && Long.compareUnsigned(address, high.value) < 0
                    && (best == null || node.depth() > best.depth())) {
                best = node;
            }
        }
        return nodes.indexOf(best);
    }

    private static void needArgument(boolean right) {
        if (!right) {
            throw new IllegalArgumentException();
        }
    }

    private static void needSupport(boolean right) {
        if (!right) {
            throw new UnsupportedOperationException();
        }
    }

    private static void needBounds(int i, int size) {
        if (i < 0 || i >= size) {
            throw new IndexOutOfBoundsException();
        }
    }

    private static void needNew(Node node, int name) {
        needArgument(name >= 1 && name <= 16383 && node.named(name) == null);
    }

    private Node node(int entry) {
        needBounds(entry, nodes.size());
        return nodes.get(entry);
    }

    private Attribute attributeOf(int entry, int k) {
        List<Attribute> attributes = node(entry).attributes;
        needBounds(k, attributes.size());
        return attributes.get(k);
    }

    private int allLetters() {
        int sum = 0;
        for (Node node : nodes) {
            for (Attribute a : node.attributes) {
                sum += a.letters.size();
            }
        }
        return sum;
    }

    // ---- written

    private static void walk(Node node, List<Node> out) {
        out.add(node);
        for (Node child : node.children) {
            walk(child, out);
        }
    }

    private List<Node> inOrder() {
        List<Node> all = new ArrayList<>();
        for (Node root : roots) {
            walk(root, all);
        }
        return all;
    }

    static List<Integer> row(long n) {
        List<Integer> out = new ArrayList<>();
        long rest = n;
        while (rest > 127) {
            out.add((int) (rest % 128) + 128);
            rest /= 128;
        }
        out.add((int) rest);
        return out;
    }

    static List<Integer> signedRow(long n) {
        List<Integer> out = new ArrayList<>();
        long rest = n;
        while (true) {
            int seven = (int) (rest & 127);
            rest = Math.floorDiv(rest, 128);
            if (rest == 0 && seven < 64 || rest == -1 && seven >= 64) {
                out.add(seven);
                return out;
            }
            out.add(seven + 128);
        }
    }

    private static List<Integer> low(long n, int width) {
        List<Integer> out = new ArrayList<>();
        for (int i = 0; i < width; i++) {
            out.add((int) (n >>> 8 * i & 255));
        }
        return out;
    }

    private Map<List<Object>, Integer> shapeNumbers() {
        Map<List<Object>, Integer> numbers = new LinkedHashMap<>();
        for (Node node : inOrder()) {
            numbers.putIfAbsent(node.shape(), numbers.size() + 1);
        }
        return numbers;
    }

    private Map<List<Integer>, Integer> textPlaces() {
        Set<List<Integer>> texts = new LinkedHashSet<>();
        for (Node node : inOrder()) {
            for (Attribute a : node.attributes) {
                if (a.form == 14) {
                    texts.add(a.letters);
                }
            }
        }
        Map<List<Integer>, Integer> places = new LinkedHashMap<>();
        int at = 0;
        for (List<Integer> text : texts) {
            places.put(text, at);
            at += text.size() + 1;
        }
        return places;
    }

    private IdentityHashMap<Attribute, Integer> rowBytes = new IdentityHashMap<>();
    private IdentityHashMap<Node, Integer> reckoned = new IdentityHashMap<>();

    private IdentityHashMap<Node, Integer> places() {
        rowBytes = new IdentityHashMap<>();
        Map<List<Object>, Integer> shapes = shapeNumbers();
        boolean grown = true;
        while (grown) {
            grown = false;
            IdentityHashMap<Node, Integer> now = new IdentityHashMap<>();
            for (Node root : roots) {
                placeFrom(root, 11, shapes, now);
            }
            for (Node node : nodes) {
                for (Attribute a : node.attributes) {
                    if (a.form == 21) {
                        int wants = row(now.get(a.to)).size();
                        if (wants > rowBytes.getOrDefault(a, 1)) {
                            rowBytes.put(a, wants);
                            grown = true;
                        }
                    }
                }
            }
            reckoned = now;
        }
        return reckoned;
    }

    private int placeFrom(Node node, int at, Map<List<Object>, Integer> shapes, IdentityHashMap<Node, Integer> now) {
        now.put(node, at);
        int behind = at + row(shapes.get(node.shape())).size();
        for (Attribute a : node.attributes) {
            behind += switch (a.form) {
                case 11, 12 -> 1;
                case 5 -> 2;
                case 6, 14, 19 -> 4;
                case 7 -> 8;
                case 13 -> signedRow(a.value).size();
                case 15 -> row(a.value).size();
                case 8, 10 -> a.letters.size() + 1;
                case 21 -> rowBytes.getOrDefault(a, 1);
                default -> 0;
            };
        }
        for (Node child : node.children) {
            behind = placeFrom(child, behind, shapes, now);
        }
        return node.children.isEmpty() ? behind : behind + 1;
    }

    private List<List<Integer>> written() {
        List<Integer> shapeBytes = new ArrayList<>();
        Map<List<Object>, Integer> shapes = shapeNumbers();
        for (Map.Entry<List<Object>, Integer> e : shapes.entrySet()) {
            List<Object> shape = e.getKey();
            shapeBytes.addAll(row(e.getValue()));
            shapeBytes.addAll(row((Integer) shape.get(0)));
            shapeBytes.add((Boolean) shape.get(1) ? 1 : 0);
            for (Object pair : shape.subList(2, shape.size())) {
                for (Object part : (List<?>) pair) {
                    shapeBytes.addAll(row((Integer) part));
                }
            }
            shapeBytes.addAll(List.of(0, 0));
        }
        shapeBytes.add(0);
        List<Integer> textBytes = new ArrayList<>();
        for (List<Integer> text : textPlaces().keySet()) {
            textBytes.addAll(text);
            textBytes.add(0);
        }
        places();
        List<Integer> entryBytes = new ArrayList<>();
        for (Node root : roots) {
            List<Integer> inside = new ArrayList<>(List.of(4, 0, 0, 0, 0, 0, 8));
            writeNode(root, shapes, textPlaces(), inside);
            entryBytes.addAll(low(inside.size(), 4));
            entryBytes.addAll(inside);
        }
        return List.of(entryBytes, shapeBytes, textBytes);
    }

    private void writeNode(Node node, Map<List<Object>, Integer> shapes, Map<List<Integer>, Integer> texts,
            List<Integer> out) {
        out.addAll(row(shapes.get(node.shape())));
        for (Attribute a : node.attributes) {
            switch (a.form) {
                case 11, 12 -> out.addAll(low(a.value, 1));
                case 5 -> out.addAll(low(a.value, 2));
                case 6 -> out.addAll(low(a.value, 4));
                case 7 -> out.addAll(low(a.value, 8));
                case 13 -> out.addAll(signedRow(a.value));
                case 15 -> out.addAll(row(a.value));
                case 14 -> out.addAll(low(texts.get(a.letters), 4));
                case 19 -> out.addAll(low(reckoned.get(a.to), 4));
                case 21 -> out.addAll(row(reckoned.get(a.to)));
                case 8 -> {
                    out.addAll(a.letters);
                    out.add(0);
                }
                case 10 -> {
                    out.add(a.letters.size());
                    out.addAll(a.letters);
                }
                default -> { }
            }
        }
        for (Node child : node.children) {
            writeNode(child, shapes, texts, out);
        }
        if (!node.children.isEmpty()) {
            out.add(0);
        }
    }

    // ---- read

    private static final class Shape {
        int tag;
        boolean children;
        List<int[]> attributes = new ArrayList<>();
    }

    private final class Bytes {
        final int section;
        int at;
        int end;

        Bytes(int section, int at, int end) {
            this.section = section;
            this.at = at;
            this.end = end;
        }

        int next() throws Fault {
            if (at >= end) {
                throw new Fault(1, section, end);
            }
            return sections.get(section).get(at++);
        }

        long low(int width) throws Fault {
            long n = 0;
            for (int i = 0; i < width; i++) {
                n += (long) next() << 8 * i;
            }
            return n;
        }

        long row(boolean signed) throws Fault {
            int first = at;
            List<Integer> all = new ArrayList<>();
            do {
                all.add(next());
                if (all.size() == 10 && all.get(9) != 0 && !(signed && all.get(9) == 127)) {
                    throw new Fault(4, section, first);
                }
            } while (all.get(all.size() - 1) > 127);
            java.math.BigInteger n = java.math.BigInteger.ZERO;
            for (int i = 0; i < all.size(); i++) {
                n = n.add(java.math.BigInteger.valueOf(all.get(i) % 128).shiftLeft(7 * i));
            }
            if (signed && all.get(all.size() - 1) >= 64) {
                n = n.subtract(java.math.BigInteger.ONE.shiftLeft(7 * all.size()));
            }
            return n.longValueExact();
        }

        int small() throws Fault {
            int first = at;
            long n = row(false);
            if (n > Integer.MAX_VALUE) {
                throw new Fault(4, section, first);
            }
            return (int) n;
        }
    }

    private final class Trees {
        final List<Node> nodes = new ArrayList<>();
        final List<Node> roots = new ArrayList<>();
        private int letters;

        void readAll() throws Fault {
            int start = 0;
            while (start < sections.get(0).size()) {
                start = readUnit(start);
            }
        }

        private int readUnit(int start) throws Fault {
            if (roots.size() == 6) {
                throw new Fault(8, 0, start);
            }
            Bytes in = new Bytes(0, start, sections.get(0).size());
            long follow = in.low(4);
            if (start + 4 + follow > in.end) {
                throw new Fault(2, 0, start);
            }
            in.end = (int) (start + 4 + follow);
            need(in.low(2) == 4, 2, 0, start + 4);
            long table = in.low(4);
            need(table <= sections.get(1).size(), 2, 0, start + 6);
            need(in.low(1) == 8, 2, 0, start + 10);
            Map<Integer, Shape> shapes = readShapes(new Bytes(1, (int) table, sections.get(1).size()));
            Map<Long, Node> places = new LinkedHashMap<>();
            int first = in.at;
            int number = in.small();
            need(number != 0, 5, 0, first);
            roots.add(readNode(in, number, first, null, shapes, places, start));
            need(in.at == in.end, 5, 0, in.at);
            for (Node node : places.values()) {
                for (Attribute a : node.attributes) {
                    if (REFERENCE_FORMS.contains(a.form)) {
                        need(places.containsKey(a.value), 7, 0, a.readAt);
                        a.to = places.get(a.value);
                    }
                }
            }
            return in.end;
        }

        private void need(boolean right, int kind, int section, int place) throws Fault {
            if (!right) {
                throw new Fault(kind, section, place);
            }
        }

        private Map<Integer, Shape> readShapes(Bytes in) throws Fault {
            Map<Integer, Shape> shapes = new LinkedHashMap<>();
            while (true) {
                int first = in.at;
                int number = in.small();
                if (number == 0) {
                    return shapes;
                }
                need(!shapes.containsKey(number) && shapes.size() < 200, 3, 1, first);
                shapes.put(number, readShape(in));
            }
        }

        private Shape readShape(Bytes in) throws Fault {
            Shape shape = new Shape();
            int first = in.at;
            shape.tag = in.small();
            need(shape.tag >= 1 && shape.tag <= 16383, 3, 1, first);
            first = in.at;
            int children = in.next();
            need(children <= 1, 3, 1, first);
            shape.children = children == 1;
            Set<Integer> names = new HashSet<>();
            while (true) {
                int nameAt = in.at;
                int name = in.small();
                need(name <= 16383, 3, 1, nameAt);
                need(name == 0 || names.add(name) && names.size() <= 8, 3, 1, nameAt);
                int formAt = in.at;
                int form = in.small();
                if (name == 0 && form == 0) {
                    return shape;
                }
                need(name != 0, 3, 1, nameAt);
                need(NUMBER_FORMS.contains(form) || LETTER_FORMS.contains(form) || REFERENCE_FORMS.contains(form),
                        3, 1, formAt);
                shape.attributes.add(new int[] {name, form});
            }
        }

        private Node readNode(Bytes in, int number, int first, Node parent, Map<Integer, Shape> shapes,
                Map<Long, Node> places, int start) throws Fault {
            Shape shape = shapes.get(number);
            need(shape != null, 5, 0, first);
            need(nodes.size() < 400 && (parent == null || parent.depth() < 30), 8, 0, first);
            Node node = new Node();
            node.tag = shape.tag;
            node.unit = roots.size();
            node.parent = parent;
            nodes.add(node);
            places.put((long) first - start, node);
            for (int[] told : shape.attributes) {
                readAttribute(in, node, told[0], told[1]);
            }
            while (shape.children) {
                int childFirst = in.at;
                int childNumber = in.small();
                if (childNumber == 0) {
                    break;
                }
                node.children.add(readNode(in, childNumber, childFirst, node, shapes, places, start));
            }
            return node;
        }

        private void readAttribute(Bytes in, Node node, int name, int form) throws Fault {
            Attribute a = new Attribute();
            a.name = name;
            a.form = form;
            a.readAt = in.at;
            switch (form) {
                case 11 -> a.value = in.low(1);
                case 12 -> {
                    a.value = in.low(1);
                    need(a.value <= 1, 6, 0, a.readAt);
                }
                case 5 -> a.value = in.low(2);
                case 6, 19 -> a.value = in.low(4);
                case 7 -> a.value = in.low(8);
                case 13 -> a.value = in.row(true);
                case 15 -> a.value = in.row(false);
                case 21 -> a.value = in.small();
                case 25 -> a.value = 1;
                case 8 -> a.letters = text(in);
                case 10 -> {
                    int length = in.next();
                    for (int i = 0; i < length; i++) {
                        a.letters.add(in.next());
                    }
                }
                default -> {
                    long place = in.low(4);
                    need(place <= sections.get(2).size(), 6, 0, a.readAt);
                    try {
                        a.letters = text(new Bytes(2, (int) place, sections.get(2).size()));
                    } catch (Fault fault) {
                        throw new Fault(6, 0, a.readAt);
                    }
                }
            }
            need(a.letters.size() <= 255, 6, 0, a.readAt);
            letters += a.letters.size();
            need(letters <= 30000, 8, 0, a.readAt);
            node.attributes.add(a);
        }

        private List<Integer> text(Bytes in) throws Fault {
            List<Integer> text = new ArrayList<>();
            for (int b = in.next(); b != 0; b = in.next()) {
                text.add(b);
            }
            return text;
        }
    }

    @Override
    public String toString() {
        return Arrays.toString(new int[] {nodes.size(), roots.size()});
    }
}
