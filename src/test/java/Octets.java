import java.util.Arrays;

/** Rows of bytes for sections, and what reading them must come to. Tests extend it to have its names. */
abstract class Octets {
    static final int[] NO_TEXTS = {};
    /** Shape 1 is tag 17 without children or attributes. */
    static final int[] PLAIN = {1, 17, 0, 0, 0, 0};

    /** A unit with right header around some bytes. */
    static int[] unit(int table, int... inside) {
        int follow = inside.length + 7;
        int[] head = {follow & 255, follow >> 8, 0, 0, 4, 0, table & 255, table >> 8, 0, 0, 8};
        return join(head, inside);
    }

    static int[] join(int[]... parts) {
        int[] all = {};
        for (int[] part : parts) {
            int from = all.length;
            all = Arrays.copyOf(all, from + part.length);
            System.arraycopy(part, 0, all, from, part.length);
        }
        return all;
    }

    static int[] times(int many, int... part) {
        int[] all = new int[many * part.length];
        for (int i = 0; i < all.length; i++) {
            all[i] = part[i % part.length];
        }
        return all;
    }

    static int[] row(int... octets) {
        return octets;
    }

    /** A shape of tag 17 with just one attribute, of name 2, in a table. */
    static int[] oneForm(int form) {
        return row(1, 17, 0, 2, form, 0, 0, 0);
    }

    /** A table of shapes 1, 2, .. of tag 17, each of six bytes. */
    static int[] table(int shapes) {
        int[] table = {};
        for (int i = 1; i <= shapes; i++) {
            table = join(table, row(0x80 + i % 128, i / 128, 17, 0, 0, 0));
        }
        return join(table, row(0));
    }
}
