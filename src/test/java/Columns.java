/** Makes columns for tests. */
final class Columns {

    static final Class<IndexOutOfBoundsException> INDEX = IndexOutOfBoundsException.class;
    static final Class<IllegalArgumentException> ARGUMENT = IllegalArgumentException.class;
    static final Class<IllegalStateException> STATE = IllegalStateException.class;

    private Columns() {
    }

    /** A new object with these values in its tail, or in blocks of 16 and its tail. */
    static PickedForms of(int... values) {
        PickedForms x = new PickedForms();
        writeAll(x, values);
        return x;
    }

    /** A new object with one block of these values. */
    static PickedForms block(int... values) {
        PickedForms x = new PickedForms();
        addBlock(x, values);
        return x;
    }

    static void addBlock(PickedForms x, int... values) {
        writeAll(x, values);
        if (x.count(2) > 0) {
            x.close();
        }
    }

    static void writeAll(PickedForms x, int... values) {
        for (int value : values) {
            x.write(value);
        }
    }

    static void appendAll(PickedForms x, String text) {
        for (int i = 0; i < text.length(); i++) {
            x.append(text.charAt(i));
        }
    }

    static int loaded(PickedForms x, String text) {
        appendAll(x, text);
        return x.load();
    }

    /** Twelve blocks of 16 values each. */
    static PickedForms full() {
        PickedForms x = new PickedForms();
        loaded(x, "0*16,1*16,2*16,3*16,4*16,5*16,6*16,7*16,8*16,9*16,0*16,1*16");
        return x;
    }

    /** Twelve blocks of one value each: 0, 10, 20 .. 110. */
    static PickedForms twelveShort() {
        PickedForms x = new PickedForms();
        for (int i = 0; i < 12; i++) {
            addBlock(x, 10 * i);
        }
        return x;
    }

    /** Twelve blocks of 16 values each, and 15 in the tail: 207 values, no more fit. */
    static PickedForms brimful() {
        PickedForms x = full();
        loaded(x, "500*15");
        return x;
    }

    /**
     * A block of each form, in its order, and a tail of three; one change in place; a
     * snapshot that is behind the state; a buffer with a text; two saved states.
     */
    static PickedForms rich() {
        PickedForms x = new PickedForms();
        addBlock(x, 1, 999);
        addBlock(x, 100, 101, 103, 102);
        addBlock(x, 3, 3, 3, 3, 3, 900, 900);
        addBlock(x, 5, 5, 5, 7, 7, 9);
        addBlock(x, 0, 999, 0, 999, 0);
        writeAll(x, 50, 60);
        x.change(3, 102);
        settle(x);
        x.write(70);
        appendAll(x, "5*3,7");
        return x;
    }

    /** As rich(), but with six saved states, all of them unlike. */
    static PickedForms richWithSixStates() {
        PickedForms x = rich();
        x.set(0, 9);
        x.change(24, 1);
        x.anew(1);
        x.write(80);
        x.change(2, 101);
        return x;
    }

    /** Twelve blocks, the tail and the buffer full, a snapshot that is behind, six states. */
    static PickedForms brimfulWithAll() {
        PickedForms x = full();
        x.keep();
        loaded(x, "500*11");
        writeAll(x, 501, 502, 503, 504);
        x.set(0, 5);
        for (int i = 0; i < 60; i++) {
            x.append(i % 2 == 0 ? '7' : ',');
        }
        return x;
    }

    /** Takes a snapshot, and leaves one saved state alone. */
    static void settle(PickedForms x) {
        x.keep();
        for (int left = x.count(8); left > 0; left--) {
            x.undo();
        }
        x.goBack();
    }

    static String values(PickedForms x) {
        StringBuilder all = new StringBuilder();
        for (int i = 0; i < x.count(0); i++) {
            all.append(i == 0 ? "" : ",").append(x.value(i, 0));
        }
        return all.toString();
    }

    /** How many values each block has, and the tail behind a "+". */
    static String lengths(PickedForms x) {
        StringBuilder all = new StringBuilder();
        for (int i = 0; i < x.count(1); i++) {
            all.append(x.block(i, 1)).append(' ');
        }
        return all.append('+').append(x.count(2)).toString();
    }

    static String bits(PickedForms x, int block) {
        StringBuilder all = new StringBuilder();
        for (int i = 0; x.bit(block, i) != PickedForms.NONE; i++) {
            all.append(x.bit(block, i));
        }
        return all.toString();
    }
}
