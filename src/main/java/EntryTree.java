import java.util.Arrays;

/**
 * Trees of entries that tell of a program: made by hand or read from three sections of bytes,
 * written to them, and asked by names, scopes and addresses.
 */
public final class EntryTree {
    public static final int NONE = -1, TOO_LARGE = -2;

    private static final int MOST_UNITS = 6;
    private static final int MOST_ENTRIES = 400;
    private static final int MOST_ATTRIBUTES = 8;
    private static final int MOST_SLOTS = MOST_ENTRIES * MOST_ATTRIBUTES;
    private static final int MOST_DEPTH = 30;
    private static final int MOST_SHAPES_TOLD = 200;
    private static final int MOST_CODE = 16383;
    private static final int MOST_INT = 2147483647;
    private static final long SIGN = 1L << 63;
    private static final int MOST_LETTERS = 255;
    private static final int ALL_LETTERS = 30000;
    private static final int TAPE_ROOM = 12000;
    private static final int FEED_BYTES = 20;
    private static final int ROW_BYTES = 10;
    private static final int HEADER_BYTES = 11;
    private static final int VERSION = 4;
    private static final int ADDRESS_BYTES = 8;
    private static final int NAME_OF_NAME = 3, NAME_OF_LOW = 17, NAME_OF_HIGH = 18;

    private static final int ENTRIES = 0, SHAPES = 1, TEXTS = 2;
    private static final int ENTRIES_ROOM = 24000, SHAPES_ROOM = 8000, TEXTS_ROOM = 8000;

    private static final int ENDS_TOO_SOON = 1, BAD_HEADER = 2, BAD_SHAPE = 3, BAD_ROW = 4;
    private static final int BAD_ENTRY = 5, BAD_VALUE = 6, BAD_REFERENCE = 7, TOO_MUCH = 8;

    private final Store tape;
    private final Store letters;
    private final Sections sections;
    private final Layout layout;
    private final Reader reader;
    private Tree tree;

    public EntryTree() {
        tape = new Store(TAPE_ROOM);
        letters = new Store(ALL_LETTERS);
        sections = new Sections();
        layout = new Layout();
        reader = new Reader();
        tree = new Tree();
    }

    public int feed(int a, int b, int c, int d, int e) throws IllegalStateException {
        if (tape.room() < FEED_BYTES) {
            throw new IllegalStateException("the tape is full");
        }
        tape.addHighFirst(a);
        tape.addHighFirst(b);
        tape.addHighFirst(c);
        tape.addHighFirst(d);
        tape.addHighFirst(e);
        return tape.used();
    }

    public void end(int n) throws IllegalArgumentException {
        if (n < 0 || n > tape.used()) {
            throw new IllegalArgumentException("the tape has no such end");
        }
        tape.cut(n);
    }

    public int unit(int tag) throws IllegalArgumentException, UnsupportedOperationException {
        needCode(tag);
        if (tree.units == MOST_UNITS || tree.entries == MOST_ENTRIES) {
            throw new UnsupportedOperationException("no room for a unit");
        }
        layout.forget();
        return tree.addRoot(tag);
    }

    public int entry(int parent, int tag)
            throws IndexOutOfBoundsException, IllegalArgumentException, UnsupportedOperationException {
        needEntry(parent);
        needCode(tag);
        if (tree.entries == MOST_ENTRIES || tree.depth[parent] == MOST_DEPTH) {
            throw new UnsupportedOperationException("no room for an entry");
        }
        layout.forget();
        return tree.addChild(parent, tag);
    }

    public int number(int entry, int name, int form, long value)
            throws IndexOutOfBoundsException, IllegalArgumentException, UnsupportedOperationException {
        needEntry(entry);
        needNewName(entry, name);
        if (!Form.isNumber(form) || !Form.holds(form, value)) {
            throw new IllegalArgumentException("no such number");
        }
        needRoom(entry, 0);
        layout.forget();
        return tree.addAttribute(entry, name, form, value, 0);
    }

    public int bytes(int entry, int name, int form)
            throws IndexOutOfBoundsException, IllegalArgumentException, UnsupportedOperationException {
        needEntry(entry);
        needNewName(entry, name);
        needLetters(form);
        int length = tape.used();
        needRoom(entry, length);
        int start = letters.used();
        letters.addFrom(tape, 0, length);
        tape.cut(0);
        layout.forget();
        return tree.addAttribute(entry, name, form, start, length);
    }

    public int reference(int entry, int name, int form, int to)
            throws IndexOutOfBoundsException, IllegalStateException, IllegalArgumentException,
            UnsupportedOperationException {
        needEntry(entry);
        needEntry(to);
        if (tree.unitOf[entry] != tree.unitOf[to]) {
            throw new IllegalStateException("an entry of another unit");
        }
        needNewName(entry, name);
        if (!Form.isReference(form)) {
            throw new IllegalArgumentException("no form of a reference");
        }
        needRoom(entry, 0);
        layout.forget();
        return tree.addAttribute(entry, name, form, to, 0);
    }

    public int clear() {
        int before = tree.entries;
        tree.forget();
        letters.cut(0);
        layout.forget();
        return before;
    }

    public int write() {
        layout.reckon(tree, letters);
        if (layout.entryBytes > ENTRIES_ROOM || layout.shapeBytes > SHAPES_ROOM || layout.textBytes > TEXTS_ROOM) {
            return TOO_LARGE;
        }
        Writer.writeUnits(tree, letters, layout, sections.entries);
        Writer.writeShapes(tree, layout, sections.shapes);
        Writer.writeTexts(tree, letters, layout, sections.texts);
        return sections.entries.used() + sections.shapes.used() + sections.texts.used();
    }

    public int size(int section) throws IndexOutOfBoundsException {
        needSection(section);
        return sections.of(section).used();
    }

    public int octet(int section, int i) throws IndexOutOfBoundsException {
        needByte(section, i);
        return sections.of(section).at(i);
    }

    public int load(int section) throws IndexOutOfBoundsException, UnsupportedOperationException {
        needSection(section);
        Store store = sections.of(section);
        int length = tape.used();
        if (length > store.most()) {
            throw new UnsupportedOperationException("too many bytes for the section");
        }
        store.cut(0);
        store.addFrom(tape, 0, length);
        tape.cut(0);
        return length;
    }

    public int alter(int section, int i, int mask) throws IndexOutOfBoundsException {
        needByte(section, i);
        Store store = sections.of(section);
        store.change(i, mask);
        return store.at(i);
    }

    public int read() {
        try {
            reader.readUnits(sections);
        } catch (IllegalStateException refused) {
            return -1 - reader.cursor.faultPlace;
        }
        Tree before = tree;
        tree = reader.tree;
        reader.tree = before;
        keepLetters();
        layout.forget();
        return tree.entries;
    }

    public int fault(int what) throws IndexOutOfBoundsException {
        if (what < 0 || what > 1) {
            throw new IndexOutOfBoundsException("no such part of a fault");
        }
        return what == 0 ? reader.cursor.faultKind : reader.cursor.faultSection;
    }

    public int count(int what) throws IndexOutOfBoundsException {
        switch (what) {
            case 0:
                return tree.entries;
            case 1:
                return tree.units;
            case 2:
                layout.reckon(tree, letters);
                return layout.shapes;
            case 3:
                layout.reckon(tree, letters);
                return layout.texts;
            default:
                throw new IndexOutOfBoundsException("no such count");
        }
    }

    public int about(int entry, int what) throws IndexOutOfBoundsException {
        needEntry(entry);
        switch (what) {
            case 0:
                return tree.tag[entry];
            case 1:
                return tree.parent[entry];
            case 2:
                return tree.unitOf[entry];
            case 3:
                return tree.children[entry];
            case 4:
                return tree.attributes[entry];
            case 5:
                layout.reckon(tree, letters);
                return layout.place[entry];
            default:
                throw new IndexOutOfBoundsException("nothing such about an entry");
        }
    }

    public int child(int entry, int k) throws IndexOutOfBoundsException {
        needEntry(entry);
        return k < 0 || k >= tree.children[entry] ? NONE : tree.childAt(entry, k);
    }

    public int root(int unit) throws IndexOutOfBoundsException {
        if (unit < 0 || unit >= tree.units) {
            throw new IndexOutOfBoundsException("no such unit");
        }
        return tree.roots[unit];
    }

    public int attribute(int entry, int k, int what) throws IndexOutOfBoundsException {
        int slot = neededSlot(entry, k);
        switch (what) {
            case 0:
                return tree.name[slot];
            case 1:
                return tree.form[slot];
            case 2:
                return tree.length[slot];
            default:
                throw new IndexOutOfBoundsException("nothing such of an attribute");
        }
    }

    public long value(int entry, int k) throws IndexOutOfBoundsException {
        int slot = neededSlot(entry, k);
        return Form.isLetters(tree.form[slot]) ? 0 : tree.value[slot];
    }

    public int letter(int entry, int k, int i) throws IndexOutOfBoundsException {
        int slot = neededSlot(entry, k);
        if (i < 0 || i >= tree.length[slot]) {
            throw new IndexOutOfBoundsException("no such byte of a text or block");
        }
        return letters.at(tree.start(slot) + i);
    }

    public int find(int entry) throws IndexOutOfBoundsException {
        if (entry != NONE) {
            needEntry(entry);
        }
        int found = entry == NONE ? rootNamedByTape() : childNamedByTape(entry);
        tape.cut(0);
        return found;
    }

    public int covers(long address) {
        int deepest = NONE;
        for (int e = 0; e < tree.entries; e++) {
            boolean deeper = deepest == NONE || tree.depth[e] > tree.depth[deepest];
            if (deeper && coversAddress(e, address)) {
                deepest = e;
            }
        }
        return deepest;
    }

    private void needEntry(int entry) {
        if (entry < 0 || entry >= tree.entries) {
            throw new IndexOutOfBoundsException("no such entry");
        }
    }

    private void needCode(int code) {
        if (!isCode(code)) {
            throw new IllegalArgumentException("no tag or name");
        }
    }

    private void needNewName(int entry, int name) {
        needCode(name);
        if (tree.slotOf(entry, name) != NONE) {
            throw new IllegalArgumentException("the name is told");
        }
    }

    private void needLetters(int form) {
        boolean wrong = !Form.isLetters(form) || tape.used() > MOST_LETTERS
                || Form.isText(form) && tape.zeroFrom(0, tape.used()) != NONE;
        if (wrong) {
            throw new IllegalArgumentException("no such text or block");
        }
    }

    private void needRoom(int entry, int length) {
        if (tree.attributes[entry] == MOST_ATTRIBUTES || letters.room() < length) {
            throw new UnsupportedOperationException("no room for an attribute");
        }
    }

    private void needSection(int section) {
        if (section < ENTRIES || section > TEXTS) {
            throw new IndexOutOfBoundsException("no such section");
        }
    }

    private void needByte(int section, int i) {
        needSection(section);
        if (i < 0 || i >= sections.of(section).used()) {
            throw new IndexOutOfBoundsException("no such byte of a section");
        }
    }

    private int neededSlot(int entry, int k) {
        needEntry(entry);
        if (k < 0 || k >= tree.attributes[entry]) {
            throw new IndexOutOfBoundsException("no such attribute");
        }
        return Tree.slotAt(entry, k);
    }

    /** A read tree's texts still lie in the sections, which later calls may change. */
    private void keepLetters() {
        letters.cut(0);
        for (int e = 0; e < tree.entries; e++) {
            for (int k = 0; k < tree.attributes[e]; k++) {
                int slot = Tree.slotAt(e, k);
                if (Form.isLetters(tree.form[slot])) {
                    Store from = tree.form[slot] == Form.KEPT_TEXT ? sections.texts : sections.entries;
                    int start = letters.used();
                    letters.addFrom(from, tree.start(slot), tree.length[slot]);
                    tree.value[slot] = start;
                }
            }
        }
    }

    private int rootNamedByTape() {
        for (int u = 0; u < tree.units; u++) {
            if (isNamedByTape(tree.roots[u])) {
                return tree.roots[u];
            }
        }
        return NONE;
    }

    private int childNamedByTape(int entry) {
        int child = tree.firstChild[entry];
        for (int k = 0; k < tree.children[entry] && child != NONE; k++) {
            if (isNamedByTape(child)) {
                return child;
            }
            child = tree.nextChild[child];
        }
        return NONE;
    }

    private boolean isNamedByTape(int entry) {
        int slot = tree.slotOf(entry, NAME_OF_NAME);
        return slot != NONE && Form.isText(tree.form[slot]) && tree.length[slot] == tape.used()
                && letters.same(tree.start(slot), tape, 0, tape.used());
    }

    private boolean coversAddress(int entry, long address) {
        int low = tree.slotOf(entry, NAME_OF_LOW);
        int high = tree.slotOf(entry, NAME_OF_HIGH);
        return low != NONE && high != NONE
                && Form.isNumber(tree.form[low]) && Form.isNumber(tree.form[high])
                && !isBelow(address, tree.value[low]) && isBelow(address, tree.value[high]);
    }

    /** Without sign: xoring the sign's bit away turns that order into the order of longs. */
    private static boolean isBelow(long a, long b) {
        return (a ^ SIGN) < (b ^ SIGN);
    }

    private static boolean isCode(int code) {
        return code >= 1 && code <= MOST_CODE;
    }

    /** Bytes one behind the other, in a room that is made once and used again. */
    private static final class Store {
        private final byte[] data;
        private int used;

        Store(int room) {
            data = new byte[Math.max(room, 0)];
        }

        int used() {
            return used;
        }

        int most() {
            return data.length;
        }

        int room() {
            return data.length - used;
        }

        int at(int i) {
            return i >= 0 && i < used ? data[i] & 255 : 0;
        }

        void change(int i, int mask) {
            if (i >= 0 && i < used) {
                data[i] = (byte) (data[i] ^ mask);
            }
        }

        void cut(int n) {
            if (n >= 0 && n < used) {
                used = n;
            }
        }

        void add(int octet) {
            if (used < data.length) {
                data[used] = (byte) octet;
                used++;
            }
        }

        void addHighFirst(int number) {
            for (int shift = 24; shift >= 0; shift -= 8) {
                add(number >> shift);
            }
        }

        void addLowFirst(long number, int width) {
            for (int i = 0; i < width; i++) {
                add((int) (number >> 8 * i));
            }
        }

        void addRow(long number) {
            addSevens(number, rowSize(number));
        }

        void addSignedRow(long number) {
            addSevens(number, signedRowSize(number));
        }

        private void addSevens(long number, int size) {
            long rest = number;
            for (int i = 1; i <= size; i++) {
                int seven = (int) (rest & 127);
                add(i < size ? seven | 128 : seven);
                rest >>= 7;
            }
        }

        void addFrom(Store from, int start, int length) {
            for (int i = 0; i < length; i++) {
                add(from.at(start + i));
            }
        }

        boolean same(int start, Store other, int otherStart, int length) {
            for (int i = 0; i < length; i++) {
                if (at(start + i) != other.at(otherStart + i)) {
                    return false;
                }
            }
            return true;
        }

        int hash(int start, int length) {
            int hash = length;
            for (int i = 0; i < length; i++) {
                hash = hash * 31 + at(start + i);
            }
            return hash;
        }

        int zeroFrom(int start, int limit) {
            for (int i = start; i < limit; i++) {
                if (at(i) == 0) {
                    return i;
                }
            }
            return NONE;
        }

        static int rowSize(long number) {
            int size = 1;
            for (long rest = number >>> 7; rest != 0 && size < ROW_BYTES; rest >>>= 7) {
                size++;
            }
            return size;
        }

        static int signedRowSize(long number) {
            int size = 1;
            for (long rest = number; (rest < -64 || rest > 63) && size < ROW_BYTES; rest >>= 7) {
                size++;
            }
            return size;
        }
    }

    private static final class Sections {
        final Store entries;
        final Store shapes;
        final Store texts;

        Sections() {
            entries = new Store(ENTRIES_ROOM);
            shapes = new Store(SHAPES_ROOM);
            texts = new Store(TEXTS_ROOM);
        }

        Store of(int section) {
            if (section == ENTRIES) {
                return entries;
            }
            return section == SHAPES ? shapes : texts;
        }
    }

    /** What the numbers of the forms mean. */
    private static final class Form {
        static final int TWO = 5, FOUR = 6, EIGHT = 7, TEXT = 8, BLOCK = 10, ONE = 11, FLAG = 12, SIGNED = 13;
        static final int KEPT_TEXT = 14, UNSIGNED = 15, REFERENCE = 19, REFERENCE_ROW = 21, PRESENT = 25;

        static boolean isText(int form) {
            return form == TEXT || form == KEPT_TEXT;
        }

        static boolean isLetters(int form) {
            return isText(form) || form == BLOCK;
        }

        static boolean isReference(int form) {
            return form == REFERENCE || form == REFERENCE_ROW;
        }

        static boolean isNumber(int form) {
            switch (form) {
                case ONE:
                case TWO:
                case FOUR:
                case EIGHT:
                case SIGNED:
                case UNSIGNED:
                case FLAG:
                case PRESENT:
                    return true;
                default:
                    return false;
            }
        }

        static boolean isForm(int form) {
            return isNumber(form) || isLetters(form) || isReference(form);
        }

        static boolean holds(int form, long value) {
            switch (form) {
                case ONE:
                    return value >= 0 && value <= 255;
                case TWO:
                    return value >= 0 && value <= 65535;
                case FOUR:
                    return value >= 0 && value <= 4294967295L;
                case UNSIGNED:
                    return value >= 0;
                case FLAG:
                    return value == 0 || value == 1;
                case PRESENT:
                    return value == 1;
                default:
                    return true;
            }
        }

        /** The bytes of a value that are as many for every value; 0 where the value tells them. */
        static int width(int form) {
            switch (form) {
                case ONE:
                case FLAG:
                    return 1;
                case TWO:
                    return 2;
                case FOUR:
                case KEPT_TEXT:
                case REFERENCE:
                    return 4;
                case EIGHT:
                    return 8;
                default:
                    return 0;
            }
        }
    }

    /** Units, entries and attributes; attribute k of entry e has the slot that slotAt(e, k) tells. */
    private static final class Tree {
        int units;
        int entries;
        final int[] roots;
        final int[] tag;
        final int[] parent;
        final int[] unitOf;
        final int[] depth;
        final int[] children;
        final int[] firstChild;
        final int[] lastChild;
        final int[] nextChild;
        final int[] attributes;
        final int[] name;
        final int[] form;
        /** A number; the number of an entry; of a text or block where its bytes start. */
        final long[] value;
        final int[] length;

        Tree() {
            roots = new int[MOST_UNITS];
            tag = new int[MOST_ENTRIES];
            parent = new int[MOST_ENTRIES];
            unitOf = new int[MOST_ENTRIES];
            depth = new int[MOST_ENTRIES];
            children = new int[MOST_ENTRIES];
            firstChild = new int[MOST_ENTRIES];
            lastChild = new int[MOST_ENTRIES];
            nextChild = new int[MOST_ENTRIES];
            attributes = new int[MOST_ENTRIES];
            name = new int[MOST_SLOTS];
            form = new int[MOST_SLOTS];
            value = new long[MOST_SLOTS];
            length = new int[MOST_SLOTS];
        }

        static int slotAt(int entry, int k) {
            return entry * MOST_ATTRIBUTES + k;
        }

        void forget() {
            units = 0;
            entries = 0;
        }

        /** The caller has seen that there is room for a unit and an entry. */
        int addRoot(int rootTag) {
            int e = addEntry(rootTag);
            parent[e] = NONE;
            unitOf[e] = units;
            depth[e] = 0;
            roots[units] = e;
            units++;
            return e;
        }

        /** The caller has seen that there is room for an entry, and that the parent is there. */
        int addChild(int of, int childTag) {
            int e = addEntry(childTag);
            parent[e] = of;
            unitOf[e] = unitOf[of];
            depth[e] = depth[of] + 1;
            if (children[of] == 0) {
                firstChild[of] = e;
            } else {
                nextChild[lastChild[of]] = e;
            }
            lastChild[of] = e;
            children[of]++;
            return e;
        }

        private int addEntry(int entryTag) {
            int e = entries;
            entries++;
            tag[e] = entryTag;
            children[e] = 0;
            firstChild[e] = NONE;
            lastChild[e] = NONE;
            nextChild[e] = NONE;
            attributes[e] = 0;
            return e;
        }

        /** The caller has seen that the entry has room for an attribute. */
        int addAttribute(int entry, int itsName, int itsForm, long itsValue, int itsLength) {
            int slot = slotAt(entry, attributes[entry]);
            name[slot] = itsName;
            form[slot] = itsForm;
            value[slot] = itsValue;
            length[slot] = itsLength;
            attributes[entry]++;
            return attributes[entry];
        }

        int slotOf(int entry, int wanted) {
            for (int k = 0; k < attributes[entry]; k++) {
                int slot = slotAt(entry, k);
                if (name[slot] == wanted) {
                    return slot;
                }
            }
            return NONE;
        }

        int start(int slot) {
            return (int) value[slot];
        }

        int childAt(int entry, int k) {
            int found = firstChild[entry];
            for (int i = 0; i < k && found != NONE; i++) {
                found = nextChild[found];
            }
            return found;
        }
    }

    /** Chains of things with like hashes, so that equal ones are found without comparing all. */
    private static final class Chains {
        private static final int HEADS = 256;
        private final int[] heads;
        private final int[] nexts;

        Chains(int most) {
            heads = new int[HEADS];
            nexts = new int[Math.max(most, 0)];
        }

        void forget() {
            Arrays.fill(heads, NONE);
        }

        int first(int hash) {
            return heads[bucket(hash)];
        }

        int after(int thing) {
            return thing >= 0 && thing < nexts.length ? nexts[thing] : NONE;
        }

        void add(int hash, int thing) {
            if (thing >= 0 && thing < nexts.length) {
                int bucket = bucket(hash);
                nexts[thing] = heads[bucket];
                heads[bucket] = thing;
            }
        }

        private static int bucket(int hash) {
            return (hash ^ hash >>> 8 ^ hash >>> 16) & HEADS - 1;
        }
    }

    /** What a tree comes to when it is written: numbers of shapes, places of texts and of entries. */
    private static final class Layout {
        /** Every round but the last lets a row grow, and no row has more than three bytes. */
        private static final int MOST_ROUNDS = 3 * MOST_SLOTS;
        int shapes;
        int texts;
        int entryBytes;
        int shapeBytes;
        int textBytes;
        private int ordered;
        private boolean reckoned;
        /** Entries as they are written: by units, in each by their places. */
        final int[] order;
        /** Where each unit begins in order, and behind the last unit where order ends. */
        final int[] unitFrom;
        final int[] unitBytes;
        /** How many lists of children end behind an entry's own bytes. */
        final int[] closings;
        private final int[] steadyBytes;
        final int[] place;
        final int[] shape;
        final int[] shapeEntry;
        final int[] textPlace;
        final int[] textSlot;
        private final Chains shapeChains;
        private final Chains textChains;

        Layout() {
            order = new int[MOST_ENTRIES];
            unitFrom = new int[MOST_UNITS + 1];
            unitBytes = new int[MOST_UNITS];
            closings = new int[MOST_ENTRIES];
            steadyBytes = new int[MOST_ENTRIES];
            place = new int[MOST_ENTRIES];
            shape = new int[MOST_ENTRIES];
            shapeEntry = new int[MOST_ENTRIES];
            textPlace = new int[MOST_SLOTS];
            textSlot = new int[MOST_SLOTS];
            shapeChains = new Chains(MOST_ENTRIES);
            textChains = new Chains(MOST_SLOTS);
        }

        void forget() {
            reckoned = false;
        }

        void reckon(Tree tree, Store letters) {
            if (reckoned) {
                return;
            }
            orderEntries(tree);
            numberShapes(tree);
            placeTexts(tree, letters);
            placeEntries(tree);
            reckoned = true;
        }

        private void orderEntries(Tree tree) {
            ordered = 0;
            for (int u = 0; u < tree.units; u++) {
                unitFrom[u] = ordered;
                int e = tree.roots[u];
                for (int i = 0; i < tree.entries && e != NONE; i++) {
                    order[ordered] = e;
                    ordered++;
                    closings[e] = 0;
                    e = tree.children[e] > 0 ? tree.firstChild[e] : climb(tree, e);
                }
            }
            unitFrom[tree.units] = ordered;
        }

        /** The entry that comes behind a leaf, and how many lists of children end in between. */
        private int climb(Tree tree, int leaf) {
            int e = leaf;
            for (int level = tree.depth[leaf]; level > 0; level--) {
                if (tree.nextChild[e] != NONE) {
                    return tree.nextChild[e];
                }
                e = tree.parent[e];
                closings[leaf]++;
            }
            return NONE;
        }

        private void numberShapes(Tree tree) {
            shapes = 0;
            shapeBytes = 1;
            shapeChains.forget();
            for (int i = 0; i < ordered; i++) {
                int e = order[i];
                int hash = shapeHash(tree, e);
                int known = knownShape(tree, e, hash);
                if (known == NONE) {
                    known = shapes;
                    shapeEntry[known] = e;
                    shapeChains.add(hash, known);
                    shapes++;
                    shapeBytes += shapeSize(tree, e, shapes);
                }
                shape[e] = known + 1;
            }
        }

        private int knownShape(Tree tree, int e, int hash) {
            int known = shapeChains.first(hash);
            for (int i = 0; i < shapes && known != NONE; i++) {
                if (sameShape(tree, e, shapeEntry[known])) {
                    return known;
                }
                known = shapeChains.after(known);
            }
            return NONE;
        }

        private static int shapeHash(Tree tree, int e) {
            int hash = tree.tag[e] * 2 + (tree.children[e] > 0 ? 1 : 0);
            for (int k = 0; k < tree.attributes[e]; k++) {
                int slot = Tree.slotAt(e, k);
                hash = (hash * 31 + tree.name[slot]) * 31 + tree.form[slot];
            }
            return hash;
        }

        private static boolean sameShape(Tree tree, int a, int b) {
            if (tree.tag[a] != tree.tag[b] || tree.attributes[a] != tree.attributes[b]
                    || tree.children[a] > 0 != tree.children[b] > 0) {
                return false;
            }
            for (int k = 0; k < tree.attributes[a]; k++) {
                int slotA = Tree.slotAt(a, k);
                int slotB = Tree.slotAt(b, k);
                if (tree.name[slotA] != tree.name[slotB] || tree.form[slotA] != tree.form[slotB]) {
                    return false;
                }
            }
            return true;
        }

        private static int shapeSize(Tree tree, int e, int number) {
            int size = Store.rowSize(number) + Store.rowSize(tree.tag[e]) + 1;
            for (int k = 0; k < tree.attributes[e]; k++) {
                int slot = Tree.slotAt(e, k);
                size += Store.rowSize(tree.name[slot]) + Store.rowSize(tree.form[slot]);
            }
            return size + 2;
        }

        private void placeTexts(Tree tree, Store letters) {
            texts = 0;
            textBytes = 0;
            textChains.forget();
            for (int i = 0; i < ordered; i++) {
                int e = order[i];
                for (int k = 0; k < tree.attributes[e]; k++) {
                    int slot = Tree.slotAt(e, k);
                    if (tree.form[slot] == Form.KEPT_TEXT) {
                        placeText(tree, letters, slot);
                    }
                }
            }
        }

        private void placeText(Tree tree, Store letters, int slot) {
            int hash = letters.hash(tree.start(slot), tree.length[slot]);
            int known = knownText(tree, letters, slot, hash);
            if (known == NONE) {
                textSlot[texts] = slot;
                textChains.add(hash, texts);
                texts++;
                textPlace[slot] = textBytes;
                textBytes += tree.length[slot] + 1;
            } else {
                textPlace[slot] = textPlace[textSlot[known]];
            }
        }

        private int knownText(Tree tree, Store letters, int slot, int hash) {
            int known = textChains.first(hash);
            for (int i = 0; i < texts && known != NONE; i++) {
                int other = textSlot[known];
                if (tree.length[slot] == tree.length[other]
                        && letters.same(tree.start(slot), letters, tree.start(other), tree.length[slot])) {
                    return known;
                }
                known = textChains.after(known);
            }
            return NONE;
        }

        private void placeEntries(Tree tree) {
            for (int i = 0; i < ordered; i++) {
                int e = order[i];
                steadyBytes[e] = Store.rowSize(shape[e]) + steadyValueBytes(tree, e) + closings[e];
                // A place of 0 wants one byte, which is what rows of references begin with.
                place[e] = 0;
            }
            entryBytes = 0;
            for (int u = 0; u < tree.units; u++) {
                boolean moved = true;
                for (int round = 0; moved && round < MOST_ROUNDS; round++) {
                    moved = moveEntries(tree, u);
                }
                entryBytes += unitBytes[u];
            }
        }

        /**
         * Places only ever grow, so a row that was sized by an earlier place of its entry is never too long,
         * and the rounds end at the same sizes in whatever order the rows grow.
         */
        private boolean moveEntries(Tree tree, int u) {
            boolean moved = false;
            int at = HEADER_BYTES;
            for (int i = unitFrom[u]; i < unitFrom[u + 1]; i++) {
                int e = order[i];
                if (place[e] != at) {
                    place[e] = at;
                    moved = true;
                }
                at += steadyBytes[e] + referenceRowBytes(tree, e);
            }
            unitBytes[u] = at;
            return moved;
        }

        private int referenceRowBytes(Tree tree, int e) {
            int size = 0;
            for (int k = 0; k < tree.attributes[e]; k++) {
                int slot = Tree.slotAt(e, k);
                if (tree.form[slot] == Form.REFERENCE_ROW) {
                    size += Store.rowSize(place[(int) tree.value[slot]]);
                }
            }
            return size;
        }

        private static int steadyValueBytes(Tree tree, int e) {
            int size = 0;
            for (int k = 0; k < tree.attributes[e]; k++) {
                int slot = Tree.slotAt(e, k);
                switch (tree.form[slot]) {
                    case Form.SIGNED:
                        size += Store.signedRowSize(tree.value[slot]);
                        break;
                    case Form.UNSIGNED:
                        size += Store.rowSize(tree.value[slot]);
                        break;
                    case Form.TEXT:
                    case Form.BLOCK:
                        size += tree.length[slot] + 1;
                        break;
                    default:
                        size += Form.width(tree.form[slot]);
                        break;
                }
            }
            return size;
        }
    }

    /** Puts a tree into sections as its layout tells, which must have been reckoned and fit. */
    private static final class Writer {
        static void writeUnits(Tree tree, Store letters, Layout layout, Store out) {
            out.cut(0);
            for (int u = 0; u < tree.units; u++) {
                out.addLowFirst(layout.unitBytes[u] - 4, 4);
                out.addLowFirst(VERSION, 2);
                out.addLowFirst(0, 4);
                out.add(ADDRESS_BYTES);
                for (int i = layout.unitFrom[u]; i < layout.unitFrom[u + 1]; i++) {
                    writeEntry(tree, letters, layout, out, layout.order[i]);
                }
            }
        }

        private static void writeEntry(Tree tree, Store letters, Layout layout, Store out, int e) {
            out.addRow(layout.shape[e]);
            for (int k = 0; k < tree.attributes[e]; k++) {
                writeValue(tree, letters, layout, out, Tree.slotAt(e, k));
            }
            out.addLowFirst(0, layout.closings[e]);
        }

        private static void writeValue(Tree tree, Store letters, Layout layout, Store out, int slot) {
            long value = tree.value[slot];
            int form = tree.form[slot];
            switch (form) {
                case Form.SIGNED:
                    out.addSignedRow(value);
                    break;
                case Form.UNSIGNED:
                    out.addRow(value);
                    break;
                case Form.TEXT:
                    out.addFrom(letters, tree.start(slot), tree.length[slot]);
                    out.add(0);
                    break;
                case Form.BLOCK:
                    out.add(tree.length[slot]);
                    out.addFrom(letters, tree.start(slot), tree.length[slot]);
                    break;
                case Form.KEPT_TEXT:
                    out.addLowFirst(layout.textPlace[slot], 4);
                    break;
                case Form.REFERENCE:
                    out.addLowFirst(layout.place[(int) value], 4);
                    break;
                case Form.REFERENCE_ROW:
                    out.addRow(layout.place[(int) value]);
                    break;
                default:
                    out.addLowFirst(value, Form.width(form));
                    break;
            }
        }

        static void writeShapes(Tree tree, Layout layout, Store out) {
            out.cut(0);
            for (int i = 0; i < layout.shapes; i++) {
                int e = layout.shapeEntry[i];
                out.addRow(i + 1);
                out.addRow(tree.tag[e]);
                out.add(tree.children[e] > 0 ? 1 : 0);
                for (int k = 0; k < tree.attributes[e]; k++) {
                    int slot = Tree.slotAt(e, k);
                    out.addRow(tree.name[slot]);
                    out.addRow(tree.form[slot]);
                }
                out.addLowFirst(0, 2);
            }
            out.add(0);
        }

        static void writeTexts(Tree tree, Store letters, Layout layout, Store out) {
            out.cut(0);
            for (int i = 0; i < layout.texts; i++) {
                int slot = layout.textSlot[i];
                out.addFrom(letters, tree.start(slot), tree.length[slot]);
                out.add(0);
            }
        }
    }

    /** Goes through the bytes of a section up to an end, and remembers why it refused to go on. */
    private static final class Cursor {
        int at;
        int end;
        int faultKind;
        int faultSection;
        int faultPlace;
        private int section;
        private Store store;

        Cursor() {
            store = new Store(0);
        }

        void over(Sections sections, int newSection, int from, int to) {
            store = sections.of(newSection);
            section = newSection;
            at = from;
            end = to;
        }

        void forgetFault() {
            faultKind = 0;
            faultSection = 0;
            faultPlace = 0;
        }

        void refuse(int kind, int place) {
            faultKind = kind;
            faultSection = section;
            faultPlace = place;
            throw new IllegalStateException("the sections are wrong");
        }

        long lowFirst(int width) {
            if (end - at < width) {
                refuse(ENDS_TOO_SOON, end);
            }
            long number = 0;
            for (int i = 0; i < width; i++) {
                number |= (long) store.at(at + i) << 8 * i;
            }
            at += width;
            return number;
        }

        long row(boolean signed) {
            int first = at;
            long number = 0;
            for (int i = 0; i < ROW_BYTES; i++) {
                if (at >= end) {
                    refuse(ENDS_TOO_SOON, end);
                }
                int octet = store.at(at);
                at++;
                boolean last = i == ROW_BYTES - 1;
                if (last && octet != 0 && !(signed && octet == 127)) {
                    refuse(BAD_ROW, first);
                }
                number |= (long) (octet & 127) << 7 * i;
                if (octet < 128) {
                    boolean negative = signed && octet >= 64;
                    return negative && !last ? number | -1L << 7 * (i + 1) : number;
                }
            }
            return number;
        }

        int smallRow() {
            int first = at;
            long number = row(false);
            if (number > MOST_INT) {
                refuse(BAD_ROW, first);
            }
            return (int) number;
        }

        /** How many bytes come before the next byte 0; the cursor goes behind that. */
        int textLength() {
            int first = at;
            int zero = store.zeroFrom(first, end);
            if (zero == NONE) {
                refuse(ENDS_TOO_SOON, end);
            }
            at = zero + 1;
            return zero - first;
        }

        void skip(int length) {
            if (end - at < length) {
                refuse(ENDS_TOO_SOON, end);
            }
            at += length;
        }
    }

    /** The shapes that a unit's header points to, as they were read. */
    private static final class Table {
        final int[] tag;
        final boolean[] hasChildren;
        final int[] attributes;
        final int[] name;
        final int[] form;
        private int shapes;
        private final int[] number;
        private final Chains chains;

        Table() {
            tag = new int[MOST_SHAPES_TOLD];
            hasChildren = new boolean[MOST_SHAPES_TOLD];
            attributes = new int[MOST_SHAPES_TOLD];
            name = new int[MOST_SHAPES_TOLD * MOST_ATTRIBUTES];
            form = new int[MOST_SHAPES_TOLD * MOST_ATTRIBUTES];
            number = new int[MOST_SHAPES_TOLD];
            chains = new Chains(MOST_SHAPES_TOLD);
        }

        /** The index of the shape with a number; NONE. */
        int indexOf(int wanted) {
            int known = chains.first(wanted);
            for (int i = 0; i < shapes && known != NONE; i++) {
                if (number[known] == wanted) {
                    return known;
                }
                known = chains.after(known);
            }
            return NONE;
        }

        void readFrom(Cursor cursor) {
            shapes = 0;
            chains.forget();
            for (int i = 0; i <= MOST_SHAPES_TOLD; i++) {
                int first = cursor.at;
                int told = cursor.smallRow();
                if (told == 0) {
                    return;
                }
                if (i == MOST_SHAPES_TOLD || indexOf(told) != NONE) {
                    cursor.refuse(BAD_SHAPE, first);
                }
                readShape(cursor, i);
                number[i] = told;
                chains.add(told, i);
                shapes++;
            }
        }

        private void readShape(Cursor cursor, int i) {
            int first = cursor.at;
            tag[i] = cursor.smallRow();
            if (!isCode(tag[i])) {
                cursor.refuse(BAD_SHAPE, first);
            }
            first = cursor.at;
            long children = cursor.lowFirst(1);
            if (children > 1) {
                cursor.refuse(BAD_SHAPE, first);
            }
            hasChildren[i] = children == 1;
            attributes[i] = 0;
            boolean more = true;
            for (int k = 0; more && k <= MOST_ATTRIBUTES; k++) {
                more = readAttribute(cursor, i);
            }
        }

        /** Reads a name and a form; false when both are 0, which ends the shape. */
        private boolean readAttribute(Cursor cursor, int i) {
            int nameFirst = cursor.at;
            int toldName = cursor.smallRow();
            if (toldName != 0 && !mayFollow(i, toldName)) {
                cursor.refuse(BAD_SHAPE, nameFirst);
            }
            int formFirst = cursor.at;
            int toldForm = cursor.smallRow();
            if (toldName == 0 && toldForm == 0) {
                return false;
            }
            if (toldName == 0) {
                cursor.refuse(BAD_SHAPE, nameFirst);
            }
            if (!Form.isForm(toldForm)) {
                cursor.refuse(BAD_SHAPE, formFirst);
            }
            int slot = Tree.slotAt(i, attributes[i]);
            name[slot] = toldName;
            form[slot] = toldForm;
            attributes[i]++;
            return true;
        }

        private boolean mayFollow(int i, int toldName) {
            if (!isCode(toldName) || attributes[i] == MOST_ATTRIBUTES) {
                return false;
            }
            for (int k = 0; k < attributes[i]; k++) {
                if (name[Tree.slotAt(i, k)] == toldName) {
                    return false;
                }
            }
            return true;
        }
    }

    /** Reads sections into a tree of its own, so that a refusal leaves the object's tree alone. */
    private static final class Reader {
        Tree tree;
        final Cursor cursor;
        private final Table table;
        private int tablePlace;
        private int lettersRead;
        /** Where each entry begins in its unit. */
        private final int[] places;
        /** Where the value of each reference begins in the section. */
        private final int[] referenceFirst;

        Reader() {
            tree = new Tree();
            cursor = new Cursor();
            table = new Table();
            places = new int[MOST_ENTRIES];
            referenceFirst = new int[MOST_SLOTS];
        }

        void readUnits(Sections sections) {
            cursor.forgetFault();
            tree.forget();
            tablePlace = NONE;
            lettersRead = 0;
            int size = sections.entries.used();
            int start = 0;
            for (int u = 0; u <= MOST_UNITS && start < size; u++) {
                cursor.over(sections, ENTRIES, start, size);
                if (u == MOST_UNITS) {
                    cursor.refuse(TOO_MUCH, start);
                }
                int shapesAt = readHeader(sections, start);
                int end = cursor.end;
                if (shapesAt != tablePlace) {
                    cursor.over(sections, SHAPES, shapesAt, sections.shapes.used());
                    table.readFrom(cursor);
                    tablePlace = shapesAt;
                }
                cursor.over(sections, ENTRIES, start + HEADER_BYTES, end);
                readEntries(sections, start);
                if (cursor.at < end) {
                    cursor.refuse(BAD_ENTRY, cursor.at);
                }
                resolveReferences(tree.roots[u]);
                start = end;
            }
        }

        /** Lets the cursor end where the unit ends; where the unit's shapes begin. */
        private int readHeader(Sections sections, int start) {
            long follow = cursor.lowFirst(4);
            if (follow > cursor.end - cursor.at) {
                cursor.refuse(BAD_HEADER, start);
            }
            cursor.end = cursor.at + (int) follow;
            int first = cursor.at;
            if (cursor.lowFirst(2) != VERSION) {
                cursor.refuse(BAD_HEADER, first);
            }
            first = cursor.at;
            long shapesAt = cursor.lowFirst(4);
            if (shapesAt > sections.shapes.used()) {
                cursor.refuse(BAD_HEADER, first);
            }
            first = cursor.at;
            if (cursor.lowFirst(1) != ADDRESS_BYTES) {
                cursor.refuse(BAD_HEADER, first);
            }
            return (int) shapesAt;
        }

        private void readEntries(Sections sections, int start) {
            int parent = NONE;
            // Each step reads a byte at least.
            for (int step = 0; step <= ENTRIES_ROOM; step++) {
                int first = cursor.at;
                int number = cursor.smallRow();
                if (number == 0 && parent != NONE) {
                    parent = tree.parent[parent];
                } else {
                    int shape = table.indexOf(number);
                    if (shape == NONE) {
                        cursor.refuse(BAD_ENTRY, first);
                    }
                    int e = readEntry(sections, parent, shape, first);
                    places[e] = first - start;
                    parent = table.hasChildren[shape] ? e : parent;
                }
                if (parent == NONE) {
                    return;
                }
            }
        }

        private int readEntry(Sections sections, int parent, int shape, int first) {
            if (tree.entries == MOST_ENTRIES || parent != NONE && tree.depth[parent] == MOST_DEPTH) {
                cursor.refuse(TOO_MUCH, first);
            }
            int e = parent == NONE ? tree.addRoot(table.tag[shape]) : tree.addChild(parent, table.tag[shape]);
            for (int k = 0; k < table.attributes[shape]; k++) {
                int told = Tree.slotAt(shape, k);
                if (Form.isLetters(table.form[told])) {
                    readLetters(sections, e, table.name[told], table.form[told]);
                } else {
                    readNumber(e, table.name[told], table.form[told]);
                }
            }
            return e;
        }

        private void readNumber(int e, int name, int form) {
            int first = cursor.at;
            referenceFirst[Tree.slotAt(e, tree.attributes[e])] = first;
            long value;
            switch (form) {
                case Form.SIGNED:
                    value = cursor.row(true);
                    break;
                case Form.UNSIGNED:
                    value = cursor.row(false);
                    break;
                case Form.REFERENCE_ROW:
                    value = cursor.smallRow();
                    break;
                case Form.PRESENT:
                    value = 1;
                    break;
                default:
                    value = cursor.lowFirst(Form.width(form));
                    break;
            }
            if (form == Form.FLAG && value > 1) {
                cursor.refuse(BAD_VALUE, first);
            }
            tree.addAttribute(e, name, form, value, 0);
        }

        private void readLetters(Sections sections, int e, int name, int form) {
            int first = cursor.at;
            int start = first;
            int length;
            if (form == Form.TEXT) {
                length = cursor.textLength();
            } else if (form == Form.BLOCK) {
                length = (int) cursor.lowFirst(1);
                start = cursor.at;
                cursor.skip(length);
            } else {
                long place = cursor.lowFirst(4);
                length = keptLength(sections.texts, place);
                start = (int) place;
            }
            if (length < 0 || length > MOST_LETTERS) {
                cursor.refuse(BAD_VALUE, first);
            }
            lettersRead += length;
            if (lettersRead > ALL_LETTERS) {
                cursor.refuse(TOO_MUCH, first);
            }
            tree.addAttribute(e, name, form, start, length);
        }

        /** How long the text at a place is; NONE when there is none, or it does not end. */
        private static int keptLength(Store texts, long place) {
            if (place >= texts.used()) {
                return NONE;
            }
            int start = (int) place;
            int zero = texts.zeroFrom(start, texts.used());
            return zero == NONE ? NONE : zero - start;
        }

        private void resolveReferences(int root) {
            for (int e = root; e < tree.entries; e++) {
                for (int k = 0; k < tree.attributes[e]; k++) {
                    int slot = Tree.slotAt(e, k);
                    if (Form.isReference(tree.form[slot])) {
                        int to = entryAt(root, tree.value[slot]);
                        if (to == NONE) {
                            cursor.refuse(BAD_REFERENCE, referenceFirst[slot]);
                        }
                        tree.value[slot] = to;
                    }
                }
            }
        }

        /** The entry of the latest unit that has a place; they lie in the order of their numbers. */
        private int entryAt(int root, long place) {
            int low = root;
            int high = tree.entries - 1;
            for (int step = 0; step < MOST_ENTRIES && low <= high; step++) {
                int middle = (low + high) / 2;
                if (places[middle] == place) {
                    return middle;
                }
                if (places[middle] < place) {
                    low = middle + 1;
                } else {
                    high = middle - 1;
                }
            }
            return NONE;
        }
    }
}
