/** Makes columns for tests. */
final class Columns {

    static final Class<IndexOutOfBoundsException> INDEX = IndexOutOfBoundsException.class;
    static final Class<IllegalArgumentException> ARGUMENT = IllegalArgumentException.class;
    static final Class<IllegalStateException> STATE = IllegalStateException.class;

    private Columns() {
    }

    /** A new object with these values in its tail, or in blocks of 16 and its tail. */
    static PickedForms of(int... values) {
        PickedForms x = new PickedForms();
        writeAll(x, values);
        return x;
    }

    /** A new object with one block of these values. */
    static PickedForms block(int... values) {
        PickedForms x = new PickedForms();
        addBlock(x, values);
        return x;
    }

    static void addBlock(PickedForms x, int... values) {
        writeAll(x, values);
        if (x.count(2) > 0) {
            x.close();
        }
    }

    static void writeAll(PickedForms x, int... values) {
        for (int value : values) {
            x.write(value);
        }
    }

    static void appendAll(PickedForms x, String text) {
        for (int i = 0; i < text.length(); i++) {
            x.append(text.charAt(i));
        }
    }

    static int loaded(PickedForms x, String text) {
        appendAll(x, text);
        return x.load();
    }

    /** Twelve blocks of 16 values each. */
    static PickedForms full() {
        PickedForms x = new PickedForms();
        loaded(x, "0*16,1*16,2*16,3*16,4*16,5*16,6*16,7*16,8*16,9*16,0*16,1*16");
        return x;
    }

    /** Twelve blocks of one value each: 0, 10, 20 .. 110. */
    static PickedForms twelveShort() {
        PickedForms x = new PickedForms();
        for (int i = 0; i < 12; i++) {
            addBlock(x, 10 * i);
        }
        return x;
    }

    static String values(PickedForms x) {
        StringBuilder all = new StringBuilder();
        for (int i = 0; i < x.count(0); i++) {
            all.append(i == 0 ? "" : ",").append(x.value(i, 0));
        }
        return all.toString();
    }

    /** How many values each block has, and the tail behind a "+". */
    static String lengths(PickedForms x) {
        StringBuilder all = new StringBuilder();
        for (int i = 0; i < x.count(1); i++) {
            all.append(x.block(i, 1)).append(' ');
        }
        return all.append('+').append(x.count(2)).toString();
    }

    static String bits(PickedForms x, int block) {
        StringBuilder all = new StringBuilder();
        for (int i = 0; x.bit(block, i) != PickedForms.NONE; i++) {
            all.append(x.bit(block, i));
        }
        return all.toString();
    }
}
