/**
 * A column of numbers in blocks, each block in the form that a sample of it
 * lets take the fewest bits. The document PickedForms numbers what it promises.
 *
 * All rows are made once, with the object: no call makes an object or an array.
 */
public final class PickedForms {

    public static final int NONE = -1;

    private static final int GREATEST_VALUE = 999;
    private static final int MOST_IN_BLOCK = 16;
    private static final int MOST_IN_TAIL = 15;
    private static final int MOST_BLOCKS = 12;
    private static final int MOST_VALUES = MOST_BLOCKS * MOST_IN_BLOCK + MOST_IN_TAIL;
    private static final int MOST_SAVED = 6;
    private static final int MOST_CODES = 60;
    /** A part is a digit and a comma at the least, but for the last one. */
    private static final int MOST_PARTS = MOST_CODES / 2;

    private static final int PLAIN = 0;
    private static final int PACKED = 1;
    private static final int RUNS = 2;
    private static final int DELTAS = 3;
    private static final int LISTED = 4;
    private static final int FORMS = 5;

    private static final int VALUE_BITS = 10;
    private static final int SHORT_BITS = 4;
    private static final int BLOCK_BITS = 7;
    /** A listed block is the longest: 16 unlike values, and as many ranks. */
    private static final int MOST_BITS =
            SHORT_BITS + MOST_IN_BLOCK * VALUE_BITS + MOST_IN_BLOCK * SHORT_BITS;

    private static final int SAMPLE = 0;
    private static final int CLOSING = 1;
    private static final int ALLOWED = 2;
    private static final int SETTINGS = 3;
    private static final int ALL_FORMS = 31;

    private static final int IN_TAIL = 0;
    private static final int IN_PLACE = 1;
    private static final int WRITTEN_ANEW = 2;

    private static final long HASH_START = 3631L;
    private static final long HASH_FACTOR = 31L;

    private final Column column = new Column();
    private final Column snapshot = new Column();
    private boolean hasSnapshot = false;
    private final History history = new History();
    private final Text text = new Text();
    private final Shape shape = new Shape();
    private final Pick pick = new Pick();
    private final Matching matching = new Matching();
    private final Parting parting = new Parting();
    private final BitRow bitRow = new BitRow();
    /** The values of a block as a change would leave them. */
    private final int[] trial = new int[MOST_IN_BLOCK];

    public PickedForms() {
    }

    // ---- writing

    public int write(int value) throws IllegalArgumentException, IllegalStateException {
        if (!isValue(value)) {
            throw new IllegalArgumentException("the value is not 0 to 999");
        }
        if (!column.canTake()) {
            throw new IllegalStateException("the tail would be closed, and there are 12 blocks");
        }
        history.push(column);
        takeValue(value);
        return column.total;
    }

    public int close() throws IllegalStateException {
        if (column.tailLength() == 0 || column.blocks >= MOST_BLOCKS) {
            throw new IllegalStateException("the tail is empty, or there are 12 blocks");
        }
        history.push(column);
        column.makeTailBlock();
        writeAnew(column.blocks - 1);
        return column.formOf(column.blocks - 1);
    }

    public int change(int index, int value)
            throws IndexOutOfBoundsException, IllegalArgumentException {
        if (!column.hasIndex(index)) {
            throw new IndexOutOfBoundsException("there is no such value");
        }
        if (!isValue(value)) {
            throw new IllegalArgumentException("the value is not 0 to 999");
        }
        history.push(column);
        int outcome = outcomeOf(index, value);
        Rows.put(column.values, index, value);
        if (outcome == IN_PLACE) {
            column.changedInPlace++;
        } else if (outcome == WRITTEN_ANEW) {
            writeAnew(column.blockOf(index));
        }
        return outcome;
    }

    // ---- blocks

    public int anew(int block) throws IndexOutOfBoundsException {
        if (!column.hasBlock(block)) {
            throw new IndexOutOfBoundsException("there is no such block");
        }
        history.push(column);
        int before = column.roomOf(block);
        writeAnew(block);
        return before - column.roomOf(block);
    }

    public int join(int block) throws IndexOutOfBoundsException, IllegalStateException {
        if (!column.hasBlock(block) || block == column.blocks - 1) {
            throw new IndexOutOfBoundsException("there is no such block, or none behind it");
        }
        int together = column.lengthOf(block) + column.lengthOf(block + 1);
        if (together > MOST_IN_BLOCK) {
            throw new IllegalStateException("both have more than 16 values together");
        }
        history.push(column);
        column.closeSlot(block + 1);
        Rows.put(column.lengths, block, together);
        writeAnew(block);
        return column.formOf(block);
    }

    public int split(int block, int place)
            throws IndexOutOfBoundsException, IllegalStateException {
        if (!column.hasBlock(block) || place < 1 || place >= column.lengthOf(block)) {
            throw new IndexOutOfBoundsException("there is no such block or place");
        }
        if (column.blocks >= MOST_BLOCKS) {
            throw new IllegalStateException("there are 12 blocks");
        }
        history.push(column);
        int before = column.roomOf(block);
        int behind = column.lengthOf(block) - place;
        column.openSlot(block + 1);
        Rows.put(column.lengths, block, place);
        Rows.put(column.lengths, block + 1, behind);
        writeAnew(block);
        writeAnew(block + 1);
        return before - column.roomOf(block) - column.roomOf(block + 1) - BLOCK_BITS;
    }

    public int drop(int block) throws IndexOutOfBoundsException {
        if (!column.hasBlock(block)) {
            throw new IndexOutOfBoundsException("there is no such block");
        }
        history.push(column);
        int length = column.lengthOf(block);
        column.removeValues(column.startOf(block), length);
        column.closeSlot(block);
        return length;
    }

    public int set(int setting, int value)
            throws IndexOutOfBoundsException, IllegalArgumentException {
        if (!isSetting(setting)) {
            throw new IndexOutOfBoundsException("there is no such setting");
        }
        if (!isSettingValue(setting, value)) {
            throw new IllegalArgumentException("the setting cannot have this value");
        }
        history.push(column);
        int previous = column.settingOf(setting);
        Rows.put(column.settings, setting, value);
        return previous;
    }

    // ---- texts, the snapshot

    public int append(int code) throws IllegalArgumentException, IllegalStateException {
        if (code < 33 || code > 126) {
            throw new IllegalArgumentException("the code is not 33 to 126");
        }
        if (text.length >= MOST_CODES) {
            throw new IllegalStateException("the buffer has 60 characters");
        }
        text.take(code);
        return text.length;
    }

    public int clearBuffer() {
        int length = text.length;
        text.length = 0;
        return length;
    }

    public int firstError() {
        return text.wrongAt();
    }

    public int load() throws IllegalArgumentException {
        if (!text.isWhole()) {
            throw new IllegalArgumentException("the buffer is not a complete column as a text");
        }
        history.push(column);
        text.readParts();
        int written = 0;
        for (int part = 0; part < text.parts; part++) {
            int value = Rows.at(text.partValues, part);
            int times = Rows.at(text.partTimes, part);
            for (int i = 0; i < times && column.canTake(); i++) {
                takeValue(value);
                written++;
            }
        }
        text.length = 0;
        return written;
    }

    public int keep() {
        snapshot.copyFrom(column);
        hasSnapshot = true;
        return column.total;
    }

    public int goBack() throws IllegalStateException {
        if (!hasSnapshot) {
            throw new IllegalStateException("there is no snapshot");
        }
        history.push(column);
        column.copyFrom(snapshot);
        return column.total;
    }

    public int undo() throws IllegalStateException {
        if (history.held == 0) {
            throw new IllegalStateException("there is no saved state");
        }
        history.popInto(column);
        return history.held;
    }

    // ---- looks; nothing is changed

    public int value(int index, int what)
            throws IndexOutOfBoundsException, IllegalArgumentException {
        if (!column.hasIndex(index)) {
            throw new IndexOutOfBoundsException("there is no such value");
        }
        if (what < 0 || what > 3) {
            throw new IllegalArgumentException("what is not 0 to 3");
        }
        return valueNumber(index, what);
    }

    public int block(int block, int what)
            throws IndexOutOfBoundsException, IllegalArgumentException {
        if (!column.hasBlock(block)) {
            throw new IndexOutOfBoundsException("there is no such block");
        }
        if (what < 0 || what > 9) {
            throw new IllegalArgumentException("what is not 0 to 9");
        }
        return blockNumber(block, what);
    }

    public int size(int block, int form)
            throws IndexOutOfBoundsException, IllegalArgumentException {
        if (!column.hasBlock(block)) {
            throw new IndexOutOfBoundsException("there is no such block");
        }
        if (form < 0 || form >= FORMS) {
            throw new IllegalArgumentException("the form is not 0 to 4");
        }
        readShape(block);
        return shape.bitsIn(form);
    }

    public int bit(int block, int index)
            throws IndexOutOfBoundsException, IllegalArgumentException {
        if (!column.hasBlock(block)) {
            throw new IndexOutOfBoundsException("there is no such block");
        }
        if (index < 0) {
            throw new IllegalArgumentException("the index is below 0");
        }
        readBits(block);
        return index < bitRow.length ? Rows.at(bitRow.bits, index) : NONE;
    }

    public int count(int what) throws IllegalArgumentException {
        if (what < 0 || what > 8) {
            throw new IllegalArgumentException("what is not 0 to 8");
        }
        return countNumber(what);
    }

    public int setting(int setting) throws IndexOutOfBoundsException {
        if (!isSetting(setting)) {
            throw new IndexOutOfBoundsException("there is no such setting");
        }
        return column.settingOf(setting);
    }

    public int match(int least, int greatest, int what) throws IllegalArgumentException {
        if (!isValue(least) || !isValue(greatest) || what < 0 || what > 3) {
            throw new IllegalArgumentException("an argument is out of range");
        }
        return matchNumber(least, greatest, what);
    }

    // ---- what would be; nothing is changed

    public int ifChanged(int index, int value, int what)
            throws IndexOutOfBoundsException, IllegalArgumentException {
        if (!column.hasIndex(index)) {
            throw new IndexOutOfBoundsException("there is no such value");
        }
        if (!isValue(value) || what < 0 || what > 1) {
            throw new IllegalArgumentException("value or what is out of range");
        }
        int outcome = outcomeOf(index, value);
        if (what == 0) {
            return outcome;
        }
        return outcome == WRITTEN_ANEW ? trialGrowth(column.blockOf(index)) : 0;
    }

    public int bestSplit(int block) throws IndexOutOfBoundsException {
        if (!column.hasBlock(block)) {
            throw new IndexOutOfBoundsException("there is no such block");
        }
        return splitPlace(block);
    }

    public int least(int what) throws IllegalArgumentException {
        if (what < 0 || what > 2) {
            throw new IllegalArgumentException("what is not 0 to 2");
        }
        if (what == 1) {
            return parting.bitsFromLast(column);
        }
        parting.readFromFirst(column);
        return what == 0 ? parting.bitsFromFirst(column) : parting.blocksFromFirst(column);
    }

    public double sizeShare() {
        if (column.total == 0) {
            return 1.0;
        }
        return (double) weight() / (10.0 * (double) column.total);
    }

    public float meanBits() {
        if (column.total == 0) {
            return 0.0f;
        }
        return (float) weight() / (float) column.total;
    }

    public long digest() {
        long hash = HASH_START;
        for (int what = 0; what <= 8; what++) {
            hash = mixed(hash, countNumber(what));
        }
        for (int i = 0; i < SETTINGS; i++) {
            hash = mixed(hash, column.settingOf(i));
        }
        hash = hashOfValues(hash);
        hash = hashOfBlocks(hash);
        hash = hashOfMatches(hash, 0, 99);
        hash = hashOfMatches(hash, 100, 499);
        hash = hashOfMatches(hash, 0, 999);
        hash = hashOfParting(hash);
        hash = mixed(hash, Floats.bitsOfDouble(sizeShare()));
        hash = mixed(hash, Floats.bitsOfFloat(meanBits()));
        hash = mixed(hash, hasSnapshot ? 1 : 0);
        hash = mixed(hash, text.length);
        for (int i = 0; i < text.length; i++) {
            hash = mixed(hash, Rows.at(text.codes, i));
        }
        return hash;
    }

    // ---- what the calls rest on

    private static boolean isValue(int value) {
        return value >= 0 && value <= GREATEST_VALUE;
    }

    private static boolean isSetting(int setting) {
        return setting >= 0 && setting < SETTINGS;
    }

    private static boolean isSettingValue(int setting, int value) {
        switch (setting) {
            case SAMPLE:
                return value >= 1 && value <= MOST_IN_BLOCK;
            case CLOSING:
                return value >= 2 && value <= MOST_IN_BLOCK;
            case ALLOWED:
                return value >= 1 && value <= ALL_FORMS && (value & 1) == 1;
            default:
                return false;
        }
    }

    private void takeValue(int value) {
        Rows.put(column.values, column.total, value);
        column.total++;
        if (column.tailLength() >= column.settingOf(CLOSING)) {
            column.makeTailBlock();
            writeAnew(column.blocks - 1);
        }
    }

    private void writeAnew(int block) {
        pick.choose(column.values, column.startOf(block), column.lengthOf(block), column.settings);
        Rows.put(column.forms, block, pick.form);
        Rows.put(column.rooms, block, pick.room);
        column.writtenAnew++;
    }

    /** Tells what change() does; leaves the changed block in the trial row. */
    private int outcomeOf(int index, int value) {
        int block = column.blockOf(index);
        if (block == NONE) {
            return IN_TAIL;
        }
        int start = column.startOf(block);
        int length = column.lengthOf(block);
        for (int i = 0; i < length; i++) {
            Rows.put(trial, i, Rows.at(column.values, start + i));
        }
        Rows.put(trial, index - start, value);
        shape.read(trial, 0, length);
        return shape.bitsIn(column.formOf(block)) <= column.roomOf(block) ? IN_PLACE : WRITTEN_ANEW;
    }

    /** By how many bits the block's room grows if the trial row is written anew in it. */
    private int trialGrowth(int block) {
        pick.choose(trial, 0, column.lengthOf(block), column.settings);
        return pick.room - column.roomOf(block);
    }

    /** What split() returns is the most where both rooms together are the least. */
    private int splitPlace(int block) {
        int start = column.startOf(block);
        int length = column.lengthOf(block);
        int best = NONE;
        int bestRooms = 0;
        for (int place = 1; place < length; place++) {
            pick.choose(column.values, start, place, column.settings);
            int rooms = pick.room;
            pick.choose(column.values, start + place, length - place, column.settings);
            rooms += pick.room;
            if (best == NONE || rooms < bestRooms) {
                best = place;
                bestRooms = rooms;
            }
        }
        return best;
    }

    private void readShape(int block) {
        shape.read(column.values, column.startOf(block), column.lengthOf(block));
    }

    private void readBits(int block) {
        readShape(block);
        bitRow.encode(column, block, shape);
    }

    private int valueNumber(int index, int what) {
        int block = column.blockOf(index);
        int start = column.startOf(block == NONE ? column.blocks : block);
        switch (what) {
            case 0:
                return Rows.at(column.values, index);
            case 1:
                return block;
            case 2:
                return index - start;
            default:
                return block == NONE ? 1 : looksInBlock(block, index - start);
        }
    }

    private int looksInBlock(int block, int place) {
        switch (column.formOf(block)) {
            case RUNS:
                shape.read(column.values, column.startOf(block), place + 1);
                return shape.runs;
            case DELTAS:
                return place + 1;
            case LISTED:
                return 2;
            default:
                return 1;
        }
    }

    private int blockNumber(int block, int what) {
        readShape(block);
        switch (what) {
            case 0:
                return column.formOf(block);
            case 1:
                return column.lengthOf(block);
            case 2:
                return shape.bitsIn(column.formOf(block));
            case 3:
                return column.roomOf(block);
            case 4:
                return shape.least;
            case 5:
                return shape.greatest;
            case 6:
                return shape.runs;
            case 7:
                return shape.unlikes;
            case 8:
                pick.choose(column.values, column.startOf(block), column.lengthOf(block),
                        column.settings);
                return pick.form;
            default:
                return column.startOf(block);
        }
    }

    private int countNumber(int what) {
        switch (what) {
            case 0:
                return column.total;
            case 1:
                return column.blocks;
            case 2:
                return column.tailLength();
            case 3:
                return weight();
            case 4:
                return column.changedInPlace;
            case 5:
                return column.writtenAnew;
            case 6:
                return column.roomSum() - usedBits();
            case 7:
                return column.sum();
            default:
                return history.held;
        }
    }

    /** What the whole column takes now. */
    private int weight() {
        return column.roomSum() + BLOCK_BITS * column.blocks
                + VALUE_BITS * column.tailLength();
    }

    private int usedBits() {
        int bits = 0;
        for (int block = 0; block < column.blocks; block++) {
            readShape(block);
            bits += shape.bitsIn(column.formOf(block));
        }
        return bits;
    }

    private int matchNumber(int least, int greatest, int what) {
        switch (what) {
            case 0:
                matching.onForms(column, least, greatest);
                return matching.hits;
            case 1:
                return matching.hitsByReading(column, least, greatest);
            case 2:
                matching.onForms(column, least, greatest);
                return matching.looks;
            default:
                return matching.firstHit(column, least, greatest);
        }
    }

    private static long mixed(long hash, long number) {
        return HASH_FACTOR * hash + number;
    }

    private long hashOfValues(long before) {
        long hash = before;
        for (int index = 0; index < column.total; index++) {
            for (int what = 0; what <= 3; what++) {
                hash = mixed(hash, valueNumber(index, what));
            }
        }
        return hash;
    }

    private long hashOfBlocks(long before) {
        long hash = before;
        for (int block = 0; block < column.blocks; block++) {
            for (int what = 0; what <= 9; what++) {
                hash = mixed(hash, blockNumber(block, what));
            }
            readBits(block);
            for (int form = 0; form < FORMS; form++) {
                hash = mixed(hash, shape.bitsIn(form));
            }
            for (int i = 0; i < bitRow.length; i++) {
                hash = mixed(hash, Rows.at(bitRow.bits, i));
            }
            hash = mixed(hash, splitPlace(block));
        }
        return hash;
    }

    private long hashOfMatches(long before, int least, int greatest) {
        matching.onForms(column, least, greatest);
        long hash = mixed(before, matching.hits);
        hash = mixed(hash, matching.hitsByReading(column, least, greatest));
        hash = mixed(hash, matching.looks);
        return mixed(hash, matching.firstHit(column, least, greatest));
    }

    private long hashOfParting(long before) {
        parting.readFromFirst(column);
        int bits = parting.bitsFromFirst(column);
        int blocks = parting.blocksFromFirst(column);
        long hash = mixed(before, bits);
        hash = mixed(hash, parting.bitsFromLast(column));
        return mixed(hash, blocks);
    }

    // ---- the classes inside

    /** Every row is read and written here, so that no index meets a row untested. */
    private static final class Rows {

        private Rows() {
        }

        static int at(int[] row, int index) {
            return index >= 0 && index < row.length ? row[index] : 0;
        }

        static void put(int[] row, int index, int number) {
            if (index >= 0 && index < row.length) {
                row[index] = number;
            }
        }

        static void copy(int[] from, int[] to) {
            System.arraycopy(from, 0, to, 0, Math.min(from.length, to.length));
        }

        /** How many bits a number has without leading zeros. */
        static int width(int number) {
            int width = 0;
            for (int i = 0; i < 31 && number >> i > 0; i++) {
                width++;
            }
            return width;
        }

        /** What a deltas block holds in place of a value: rises are even, falls odd. */
        static int step(int ahead, int value) {
            int rise = value - ahead;
            return rise >= 0 ? 2 * rise : -2 * rise - 1;
        }
    }

    /**
     * The bits of a float or a double as IEEE 754 lays them out, for 0 and for numbers
     * near 1. By hand, because the language rules leave out the library's own functions;
     * halving, doubling and taking 1 away are all exact here.
     */
    private static final class Floats {

        private static final int MOST_STEPS = 100;

        private Floats() {
        }

        static long bitsOfDouble(double number) {
            if (number <= 0.0) {
                return 0L;
            }
            double part = number;
            long exponent = 1023L;
            for (int i = 0; i < MOST_STEPS && part >= 2.0; i++) {
                part = part / 2.0;
                exponent++;
            }
            for (int i = 0; i < MOST_STEPS && part < 1.0; i++) {
                part = part * 2.0;
                exponent--;
            }
            return (exponent << 52) + (long) ((part - 1.0) * 4503599627370496.0);
        }

        static int bitsOfFloat(float number) {
            if (number <= 0.0f) {
                return 0;
            }
            float part = number;
            int exponent = 127;
            for (int i = 0; i < MOST_STEPS && part >= 2.0f; i++) {
                part = part / 2.0f;
                exponent++;
            }
            for (int i = 0; i < MOST_STEPS && part < 1.0f; i++) {
                part = part * 2.0f;
                exponent--;
            }
            return (exponent << 23) + (int) ((part - 1.0f) * 8388608.0f);
        }
    }

    /**
     * All that undo() restores. The values stand in one row, block behind block and the
     * tail last, so that an index is its place in the row, and blocks are told by lengths.
     */
    private static final class Column {

        final int[] values = new int[MOST_VALUES];
        final int[] lengths = new int[MOST_BLOCKS];
        final int[] forms = new int[MOST_BLOCKS];
        final int[] rooms = new int[MOST_BLOCKS];
        final int[] settings = {MOST_IN_BLOCK, MOST_IN_BLOCK, ALL_FORMS};
        int total = 0;
        int blocks = 0;
        int changedInPlace = 0;
        int writtenAnew = 0;

        void copyFrom(Column other) {
            Rows.copy(other.values, values);
            Rows.copy(other.lengths, lengths);
            Rows.copy(other.forms, forms);
            Rows.copy(other.rooms, rooms);
            Rows.copy(other.settings, settings);
            total = other.total;
            blocks = other.blocks;
            changedInPlace = other.changedInPlace;
            writtenAnew = other.writtenAnew;
        }

        boolean hasIndex(int index) {
            return index >= 0 && index < total;
        }

        boolean hasBlock(int block) {
            return block >= 0 && block < blocks;
        }

        int lengthOf(int block) {
            return Rows.at(lengths, block);
        }

        int formOf(int block) {
            return Rows.at(forms, block);
        }

        int roomOf(int block) {
            return Rows.at(rooms, block);
        }

        int settingOf(int setting) {
            return Rows.at(settings, setting);
        }

        /** The index of a block's first value; of the tail's, for the number of blocks. */
        int startOf(int block) {
            int start = 0;
            for (int i = 0; i < block; i++) {
                start += Rows.at(lengths, i);
            }
            return start;
        }

        int blockOf(int index) {
            int end = 0;
            for (int block = 0; block < blocks; block++) {
                end += Rows.at(lengths, block);
                if (index < end) {
                    return block;
                }
            }
            return NONE;
        }

        int tailLength() {
            return total - startOf(blocks);
        }

        boolean canTake() {
            return blocks < MOST_BLOCKS || tailLength() + 1 < settingOf(CLOSING);
        }

        int roomSum() {
            int bits = 0;
            for (int block = 0; block < blocks; block++) {
                bits += Rows.at(rooms, block);
            }
            return bits;
        }

        int sum() {
            int sum = 0;
            for (int i = 0; i < total; i++) {
                sum += Rows.at(values, i);
            }
            return sum;
        }

        void removeValues(int start, int number) {
            for (int i = start; i + number < total; i++) {
                Rows.put(values, i, Rows.at(values, i + number));
            }
            total -= number;
        }

        /** The new block has no form and no room yet. */
        void makeTailBlock() {
            int length = tailLength();
            Rows.put(lengths, blocks, length);
            blocks++;
        }

        void openSlot(int block) {
            for (int i = blocks; i > block; i--) {
                moveSlot(i - 1, i);
            }
            blocks++;
        }

        void closeSlot(int block) {
            for (int i = block; i + 1 < blocks; i++) {
                moveSlot(i + 1, i);
            }
            blocks--;
        }

        private void moveSlot(int from, int to) {
            Rows.put(lengths, to, Rows.at(lengths, from));
            Rows.put(forms, to, Rows.at(forms, from));
            Rows.put(rooms, to, Rows.at(rooms, from));
        }
    }

    /** The saved states, in a ring: the oldest gives its column to the next one. */
    private static final class History {

        private final Column[] ring = new Column[MOST_SAVED];
        private int oldest = 0;
        int held = 0;

        History() {
            for (int i = 0; i < ring.length; i++) {
                ring[i] = new Column();
            }
        }

        void push(Column column) {
            Column slot = slotAt(oldest + held);
            if (slot != null) {
                slot.copyFrom(column);
            }
            if (held < MOST_SAVED) {
                held++;
            } else {
                oldest = (oldest + 1) % MOST_SAVED;
            }
        }

        void popInto(Column column) {
            if (held > 0) {
                held--;
                Column slot = slotAt(oldest + held);
                if (slot != null) {
                    column.copyFrom(slot);
                }
            }
        }

        private Column slotAt(int number) {
            int place = number % MOST_SAVED;
            return place >= 0 && place < ring.length ? ring[place] : null;
        }
    }

    /** What the forms need to know of values, which are taken in one behind the other. */
    private static final class Shape {

        /** By rising numbers. */
        final int[] unlike = new int[MOST_IN_BLOCK];
        int unlikes = 0;
        int count = 0;
        int least = 0;
        int greatest = 0;
        int runs = 0;
        int topStep = 0;
        private int last = 0;

        void clear() {
            unlikes = 0;
            count = 0;
            runs = 0;
            topStep = 0;
        }

        void read(int[] row, int start, int length) {
            clear();
            for (int i = 0; i < length; i++) {
                add(Rows.at(row, start + i));
            }
        }

        void add(int value) {
            if (count == 0) {
                least = value;
                greatest = value;
                runs = 1;
            } else {
                least = value < least ? value : least;
                greatest = value > greatest ? value : greatest;
                runs = value == last ? runs : runs + 1;
                topStep = Math.max(topStep, Rows.step(last, value));
            }
            last = value;
            count++;
            addUnlike(value);
        }

        /** Tests its indexes itself: most calls end here, and few may stand open at once. */
        private void addUnlike(int value) {
            int rank = 0;
            for (int i = 0; i < unlikes && i < unlike.length; i++) {
                if (unlike[i] == value) {
                    return;
                }
                if (unlike[i] < value) {
                    rank++;
                }
            }
            if (unlikes >= unlike.length) {
                return;
            }
            for (int i = unlikes; i > rank; i--) {
                unlike[i] = unlike[i - 1];
            }
            unlike[rank] = value;
            unlikes++;
        }

        /** How many of the unlike values are below this one. */
        int rankOf(int value) {
            int rank = 0;
            for (int i = 0; i < unlikes && Rows.at(unlike, i) < value; i++) {
                rank++;
            }
            return rank;
        }

        int bitsIn(int form) {
            switch (form) {
                case PACKED:
                    return VALUE_BITS + SHORT_BITS + count * Rows.width(greatest - least);
                case RUNS:
                    return runs * (VALUE_BITS + SHORT_BITS);
                case DELTAS:
                    return VALUE_BITS + SHORT_BITS + (count - 1) * Rows.width(topStep);
                case LISTED:
                    return SHORT_BITS + unlikes * VALUE_BITS + count * Rows.width(unlikes - 1);
                default:
                    return count * VALUE_BITS;
            }
        }

        /** The allowed form with the fewest bits, of several the lowest. */
        int lightestForm(int allowed) {
            int best = PLAIN;
            int bestBits = bitsIn(PLAIN);
            for (int form = PLAIN + 1; form < FORMS; form++) {
                if ((allowed >> form & 1) == 1) {
                    int bits = bitsIn(form);
                    if (bits < bestBits) {
                        best = form;
                        bestBits = bits;
                    }
                }
            }
            return best;
        }
    }

    /** The form that a sample picks for values, and the room that they take in it. */
    private static final class Pick {

        private final Shape shape = new Shape();
        int form = PLAIN;
        int room = 0;

        void choose(int[] row, int start, int length, int[] settings) {
            int sample = Math.min(length, Rows.at(settings, SAMPLE));
            form = PLAIN;
            shape.clear();
            for (int i = 0; i < length; i++) {
                shape.add(Rows.at(row, start + i));
                if (i + 1 == sample) {
                    form = shape.lightestForm(Rows.at(settings, ALLOWED));
                }
            }
            room = shape.bitsIn(form);
        }
    }

    /** The bits of a block in its form. */
    private static final class BitRow {

        final int[] bits = new int[MOST_BITS];
        int length = 0;

        void encode(Column column, int block, Shape shape) {
            int[] row = column.values;
            int start = column.startOf(block);
            int end = start + column.lengthOf(block);
            length = 0;
            switch (column.formOf(block)) {
                case PACKED:
                    encodePacked(row, start, end, shape);
                    break;
                case RUNS:
                    encodeRuns(row, start, end);
                    break;
                case DELTAS:
                    encodeDeltas(row, start, end, shape);
                    break;
                case LISTED:
                    encodeListed(row, start, end, shape);
                    break;
                default:
                    encodePlain(row, start, end);
                    break;
            }
        }

        private void encodePlain(int[] row, int start, int end) {
            for (int i = start; i < end; i++) {
                field(Rows.at(row, i), VALUE_BITS);
            }
        }

        private void encodePacked(int[] row, int start, int end, Shape shape) {
            int width = Rows.width(shape.greatest - shape.least);
            field(shape.least, VALUE_BITS);
            field(width, SHORT_BITS);
            for (int i = start; i < end; i++) {
                field(Rows.at(row, i) - shape.least, width);
            }
        }

        private void encodeRuns(int[] row, int start, int end) {
            int length = 0;
            for (int i = start; i < end; i++) {
                int value = Rows.at(row, i);
                length++;
                if (i + 1 == end || Rows.at(row, i + 1) != value) {
                    field(value, VALUE_BITS);
                    field(length - 1, SHORT_BITS);
                    length = 0;
                }
            }
        }

        private void encodeDeltas(int[] row, int start, int end, Shape shape) {
            int width = Rows.width(shape.topStep);
            field(Rows.at(row, start), VALUE_BITS);
            field(width, SHORT_BITS);
            for (int i = start + 1; i < end; i++) {
                field(Rows.step(Rows.at(row, i - 1), Rows.at(row, i)), width);
            }
        }

        private void encodeListed(int[] row, int start, int end, Shape shape) {
            int width = Rows.width(shape.unlikes - 1);
            field(shape.unlikes - 1, SHORT_BITS);
            for (int i = 0; i < shape.unlikes; i++) {
                field(Rows.at(shape.unlike, i), VALUE_BITS);
            }
            for (int i = start; i < end; i++) {
                field(shape.rankOf(Rows.at(row, i)), width);
            }
        }

        private void field(int number, int width) {
            for (int i = width - 1; i >= 0; i--) {
                Rows.put(bits, length, number >> i & 1);
                length++;
            }
        }
    }

    /** Matching on the forms, with its looks, and by reading all values. */
    private static final class Matching {

        private final Shape shape = new Shape();
        int hits = 0;
        int looks = 0;

        void onForms(Column column, int least, int greatest) {
            hits = 0;
            looks = 0;
            int start = 0;
            for (int block = 0; block < column.blocks; block++) {
                int end = start + column.lengthOf(block);
                shape.read(column.values, start, end - start);
                looks++;
                if (shape.least >= least && shape.greatest <= greatest) {
                    hits += shape.count;
                } else if (least <= greatest
                        && shape.greatest >= least && shape.least <= greatest) {
                    inForm(column, block, start, least, greatest);
                }
                start = end;
            }
            byValues(column.values, start, column.total, least, greatest);
        }

        private void inForm(Column column, int block, int start, int least, int greatest) {
            int end = start + column.lengthOf(block);
            switch (column.formOf(block)) {
                case RUNS:
                    byRuns(column.values, start, end, least, greatest);
                    break;
                case LISTED:
                    byRanks(column.values, start, end, least, greatest);
                    break;
                default:
                    byValues(column.values, start, end, least, greatest);
                    break;
            }
        }

        private void byValues(int[] row, int start, int end, int least, int greatest) {
            for (int i = start; i < end; i++) {
                looks++;
                if (isWithin(Rows.at(row, i), least, greatest)) {
                    hits++;
                }
            }
        }

        private void byRuns(int[] row, int start, int end, int least, int greatest) {
            boolean within = false;
            for (int i = start; i < end; i++) {
                if (i == start || Rows.at(row, i) != Rows.at(row, i - 1)) {
                    looks++;
                    within = isWithin(Rows.at(row, i), least, greatest);
                }
                if (within) {
                    hits++;
                }
            }
        }

        /** The ranks that match stand side by side, because the unlike values rise. */
        private void byRanks(int[] row, int start, int end, int least, int greatest) {
            int below = 0;
            int within = 0;
            for (int i = 0; i < shape.unlikes; i++) {
                looks++;
                int value = Rows.at(shape.unlike, i);
                if (value < least) {
                    below++;
                } else if (value <= greatest) {
                    within++;
                }
            }
            for (int i = start; i < end; i++) {
                looks++;
                int rank = shape.rankOf(Rows.at(row, i));
                if (rank >= below && rank < below + within) {
                    hits++;
                }
            }
        }

        int hitsByReading(Column column, int least, int greatest) {
            int found = 0;
            for (int i = 0; i < column.total; i++) {
                if (isWithin(Rows.at(column.values, i), least, greatest)) {
                    found++;
                }
            }
            return found;
        }

        int firstHit(Column column, int least, int greatest) {
            for (int i = 0; i < column.total; i++) {
                if (isWithin(Rows.at(column.values, i), least, greatest)) {
                    return i;
                }
            }
            return NONE;
        }

        private static boolean isWithin(int value, int least, int greatest) {
            return value >= least && value <= greatest;
        }
    }

    /** The fewest bits for all values, if they were parted into blocks anew. */
    private static final class Parting {

        /** Above the bits of any column. */
        private static final int UNKNOWN = 1000000;

        private final Shape shape = new Shape();
        private final int[] bits = new int[MOST_VALUES + 1];
        private final int[] blocks = new int[MOST_VALUES + 1];

        /** The rows tell the fewest bits, and blocks, for the values ahead of an index. */
        void readFromFirst(Column column) {
            int allowed = column.settingOf(ALLOWED);
            forget(0, column.total);
            for (int i = 0; i < column.total; i++) {
                int most = Math.min(MOST_IN_BLOCK, column.total - i);
                shape.clear();
                for (int length = 1; length <= most; length++) {
                    shape.add(Rows.at(column.values, i + length - 1));
                    offer(i + length, Rows.at(bits, i) + blockBits(allowed),
                            Rows.at(blocks, i) + 1);
                }
            }
        }

        int bitsFromFirst(Column column) {
            return Rows.at(bits, column.total);
        }

        int blocksFromFirst(Column column) {
            return Rows.at(blocks, column.total);
        }

        /** Here the rows tell it for the values from an index on. */
        int bitsFromLast(Column column) {
            int allowed = column.settingOf(ALLOWED);
            forget(column.total, column.total);
            for (int i = column.total - 1; i >= 0; i--) {
                int most = Math.min(MOST_IN_BLOCK, column.total - i);
                shape.clear();
                for (int length = 1; length <= most; length++) {
                    shape.add(Rows.at(column.values, i + length - 1));
                    offer(i, Rows.at(bits, i + length) + blockBits(allowed),
                            Rows.at(blocks, i + length) + 1);
                }
            }
            return Rows.at(bits, 0);
        }

        private void forget(int known, int total) {
            for (int i = 0; i <= total; i++) {
                Rows.put(bits, i, UNKNOWN);
                Rows.put(blocks, i, 0);
            }
            Rows.put(bits, known, 0);
        }

        private int blockBits(int allowed) {
            return BLOCK_BITS + shape.bitsIn(shape.lightestForm(allowed));
        }

        private void offer(int index, int newBits, int newBlocks) {
            int oldBits = Rows.at(bits, index);
            if (newBits < oldBits
                    || newBits == oldBits && newBlocks < Rows.at(blocks, index)) {
                Rows.put(bits, index, newBits);
                Rows.put(blocks, index, newBlocks);
            }
        }
    }

    /** The buffer, and a column as a text that it may hold. */
    private static final class Text {

        private static final int AT_PART = 0;
        private static final int ONE_DIGIT = 1;
        private static final int TWO_DIGITS = 2;
        private static final int VALUE_ENDS = 3;
        private static final int AT_TIMES = 4;
        private static final int TIMES_ONE = 5;
        private static final int TIMES_ENDS = 6;
        private static final int WRONG = 7;

        final int[] codes = new int[MOST_CODES];
        int length = 0;
        final int[] partValues = new int[MOST_PARTS];
        final int[] partTimes = new int[MOST_PARTS];
        int parts = 0;

        void take(int code) {
            Rows.put(codes, length, code);
            length++;
        }

        int wrongAt() {
            int state = AT_PART;
            for (int i = 0; i < length; i++) {
                state = behind(state, Rows.at(codes, i));
                if (state == WRONG) {
                    return i;
                }
            }
            return length;
        }

        boolean isWhole() {
            int state = AT_PART;
            for (int i = 0; i < length; i++) {
                state = behind(state, Rows.at(codes, i));
            }
            return state == ONE_DIGIT || state == TWO_DIGITS
                    || state == VALUE_ENDS || state == TIMES_ENDS;
        }

        /** Reads a text that is whole; its end is taken as the comma of its last part. */
        void readParts() {
            int number = 0;
            int value = NONE;
            parts = 0;
            for (int i = 0; i <= length; i++) {
                int code = i < length ? Rows.at(codes, i) : ',';
                if (isDigit(code)) {
                    number = 10 * number + code - '0';
                } else if (code == '*') {
                    value = number;
                    number = 0;
                } else {
                    addPart(value == NONE ? number : value, value == NONE ? 1 : number);
                    value = NONE;
                    number = 0;
                }
            }
        }

        private void addPart(int value, int times) {
            Rows.put(partValues, parts, value);
            Rows.put(partTimes, parts, times);
            parts++;
        }

        private static int behind(int state, int code) {
            switch (state) {
                case AT_PART:
                    return code == '0' ? VALUE_ENDS : isDigit(code) ? ONE_DIGIT : WRONG;
                case ONE_DIGIT:
                    return isDigit(code) ? TWO_DIGITS : behindValue(code);
                case TWO_DIGITS:
                    return isDigit(code) ? VALUE_ENDS : behindValue(code);
                case VALUE_ENDS:
                    return behindValue(code);
                case AT_TIMES:
                    return code == '1' ? TIMES_ONE
                            : code >= '2' && code <= '9' ? TIMES_ENDS : WRONG;
                case TIMES_ONE:
                    return code >= '0' && code <= '6' ? TIMES_ENDS : WRONG;
                case TIMES_ENDS:
                    return code == ',' ? AT_PART : WRONG;
                default:
                    return WRONG;
            }
        }

        private static int behindValue(int code) {
            return code == '*' ? AT_TIMES : code == ',' ? AT_PART : WRONG;
        }

        private static boolean isDigit(int code) {
            return code >= '0' && code <= '9';
        }
    }
}
