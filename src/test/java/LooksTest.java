/** Promises 17 to 23: value, block, size, bit, count, setting, match. */
final class LooksTest {

    private static final int[] PLAIN = {1, 999};
    private static final int[] PACKED = {100, 101, 103, 102};
    private static final int[] RUNS = {3, 3, 3, 3, 3, 900, 900};
    private static final int[] DELTAS = {5, 5, 5, 7, 7, 9};
    private static final int[] FALLING = {20, 19, 18, 17, 16, 15};
    private static final int[] LISTED = {0, 999, 0, 999, 0};

    private static final Check check = new Check("LooksTest");

    public static void main(String[] args) {
        value();
        valueLooks();
        block();
        size();
        sizeEdges();
        bits();
        bitEdges();
        bitsBehindChange();
        count();
        setting();
        matchInForms();
        matchOverBlocks();
        matchIsRefused();
        nothingIsChanged();
        check.end();
    }

    /** A block of each form, and a tail of two values. */
    private static PickedForms allForms() {
        PickedForms x = new PickedForms();
        Columns.addBlock(x, PLAIN);
        Columns.addBlock(x, PACKED);
        Columns.addBlock(x, RUNS);
        Columns.addBlock(x, DELTAS);
        Columns.addBlock(x, LISTED);
        Columns.writeAll(x, 50, 60);
        for (int form = 0; form < 5; form++) {
            check.same("a block of each form", x.block(form, 0), form);
        }
        return x;
    }

    private static String numbers(PickedForms x, int what) {
        StringBuilder all = new StringBuilder();
        for (int i = 0; i < x.count(0); i++) {
            all.append(i == 0 ? "" : " ").append(x.value(i, what));
        }
        return all.toString();
    }

    private static void value() {
        PickedForms x = allForms();
        check.same("value(i, 0)", numbers(x, 0), "1 999 100 101 103 102 3 3 3 3 3 900 900 "
                + "5 5 5 7 7 9 0 999 0 999 0 50 60");
        check.same("value(i, 1)", numbers(x, 1),
                "0 0 1 1 1 1 2 2 2 2 2 2 2 3 3 3 3 3 3 4 4 4 4 4 -1 -1");
        check.same("value(i, 2)", numbers(x, 2),
                "0 1 0 1 2 3 0 1 2 3 4 5 6 0 1 2 3 4 5 0 1 2 3 4 0 1");
        check.refuses(x, "value(26, 0)", Columns.INDEX, () -> x.value(26, 0));
        check.refuses(x, "value(-1, 0)", Columns.INDEX, () -> x.value(-1, 0));
        check.refuses(x, "value(26, 4)", Columns.INDEX, () -> x.value(26, 4));
        check.refuses(x, "value(0, 4)", Columns.ARGUMENT, () -> x.value(0, 4));
        check.refuses(x, "value(0, -1)", Columns.ARGUMENT, () -> x.value(0, -1));
    }

    private static void valueLooks() {
        check.same("value(i, 3)", numbers(allForms(), 3),
                "1 1 1 1 1 1 1 1 1 1 1 2 2 1 2 3 4 5 6 2 2 2 2 2 1 1");
        PickedForms x = Columns.block(3, 3, 8, 3, 3, 3, 3, 3, 3, 3, 3);
        x.set(2, 5);
        x.anew(0);
        check.same("runs that come again", numbers(x, 3), "1 1 2 3 3 3 3 3 3 3 3");
    }

    private static void block() {
        PickedForms x = allForms();
        String[] due = {"0 2 20 20 1 999 2 2 0 0", "1 4 22 22 100 103 4 4 1 2",
            "2 7 28 28 3 900 2 2 2 6", "3 6 29 29 5 9 3 3 3 13", "4 5 29 29 0 999 5 2 4 19"};
        for (int block = 0; block < 5; block++) {
            StringBuilder all = new StringBuilder();
            for (int what = 0; what <= 9; what++) {
                all.append(what == 0 ? "" : " ").append(x.block(block, what));
            }
            check.same("block(" + block + ")", all.toString(), due[block]);
        }
        x.set(2, 3);
        check.same("block(2, 8): what would be picked now", x.block(2, 8), 0);
        check.same("block(2, 0): what was picked", x.block(2, 0), 2);
        x.set(2, 31);
        x.set(0, 5);
        check.same("block(2, 8): by the sample", x.block(2, 8), 1);
        x.set(0, 16);
        x.change(2, 102);
        x.change(3, 102);
        x.change(4, 102);
        check.same("block(1, 2): bits", x.block(1, 2), 14);
        check.same("block(1, 3): room", x.block(1, 3), 22);
        check.refuses(x, "block(5, 0)", Columns.INDEX, () -> x.block(5, 0));
        check.refuses(x, "block(-1, 0)", Columns.INDEX, () -> x.block(-1, 0));
        check.refuses(x, "block(5, 10)", Columns.INDEX, () -> x.block(5, 10));
        check.refuses(x, "block(0, 10)", Columns.ARGUMENT, () -> x.block(0, 10));
        check.refuses(x, "block(0, -1)", Columns.ARGUMENT, () -> x.block(0, -1));
    }

    private static void sizes(String due, int... values) {
        PickedForms x = Columns.block(values);
        StringBuilder all = new StringBuilder();
        for (int form = 0; form < 5; form++) {
            all.append(form == 0 ? "" : " ").append(x.size(0, form));
        }
        check.same("size() of " + Columns.values(x), all.toString(), due);
    }

    private static void size() {
        sizes("20 34 28 25 26", PLAIN);
        sizes("40 22 56 23 52", PACKED);
        sizes("70 84 28 80 31", RUNS);
        sizes("60 32 42 29 46", DELTAS);
        sizes("60 32 84 19 82", FALLING);
        sizes("50 64 70 58 29", LISTED);
        PickedForms x = Columns.block(PACKED);
        x.set(2, 1);
        check.same("size() in a form that is not allowed", x.size(0, 3), 23);
        check.refuses(x, "size(1, 0)", Columns.INDEX, () -> x.size(1, 0));
        check.refuses(x, "size(-1, 0)", Columns.INDEX, () -> x.size(-1, 0));
        check.refuses(x, "size(1, 5)", Columns.INDEX, () -> x.size(1, 5));
        check.refuses(x, "size(0, 5)", Columns.ARGUMENT, () -> x.size(0, 5));
        check.refuses(x, "size(0, -1)", Columns.ARGUMENT, () -> x.size(0, -1));
    }

    private static void sizeEdges() {
        sizes("10 14 14 14 14", 999);
        sizes("10 14 14 14 14", 0);
        sizes("160 14 14 14 14", 7, 7, 7, 7, 7, 7, 7, 7, 7, 7, 7, 7, 7, 7, 7, 7);
        sizes("160 78 224 44 228", 0, 1, 2, 3, 4, 5, 6, 7, 8, 9, 10, 11, 12, 13, 14, 15);
        sizes("20 32 28 24 26", 0, 511);
        sizes("20 34 28 25 26", 0, 512);
        sizes("20 34 28 24 26", 512, 0);
        sizes("20 34 28 25 26", 513, 0);
        sizes("20 30 28 23 26", 0, 128);
        sizes("20 30 28 22 26", 128, 0);
        sizes("30 38 42 32 40", 0, 128, 255);
    }

    private static void bits() {
        String plain = "0000000001" + "1111100111";
        String packed = "0001100100" + "0010" + "00" + "01" + "11" + "10";
        String runs = "0000000011" + "0100" + "1110000100" + "0001";
        String deltas = "0000000101" + "0011" + "000" + "000" + "100" + "000" + "100";
        String falling = "0000010100" + "0001" + "11111";
        String listed = "0001" + "0000000000" + "1111100111" + "01010";
        check.same("bits: plain", Columns.bits(Columns.block(PLAIN), 0), plain);
        check.same("bits: packed", Columns.bits(Columns.block(PACKED), 0), packed);
        check.same("bits: runs", Columns.bits(Columns.block(RUNS), 0), runs);
        check.same("bits: deltas", Columns.bits(Columns.block(DELTAS), 0), deltas);
        check.same("bits: falling deltas", Columns.bits(Columns.block(FALLING), 0), falling);
        check.same("bits: listed", Columns.bits(Columns.block(LISTED), 0), listed);
        PickedForms odd = Columns.block(109, 110, 112, 111);
        check.same("bits: packed above an odd least value", Columns.bits(odd, 0),
                "0001101101" + "0010" + "00" + "01" + "11" + "10");
        PickedForms beside = Columns.block(RUNS);
        Columns.addBlock(beside, 900);
        check.same("bits: a run ends with its block", Columns.bits(beside, 0), runs);
        PickedForms x = allForms();
        check.same("bits: of the third block", Columns.bits(x, 2), runs);
        check.same("bits: of the last block", Columns.bits(x, 4), listed);
    }

    private static void bitEdges() {
        PickedForms like = Columns.block(8, 8, 8);
        check.same("bits: packed of width 0", Columns.bits(like, 0), "0000001000" + "0000");
        like.set(2, 9);
        like.anew(0);
        check.same("bits: deltas of width 0", Columns.bits(like, 0), "0000001000" + "0000");
        like.set(2, 17);
        like.anew(0);
        check.same("bits: listed of width 0", Columns.bits(like, 0), "0000" + "0000001000");
        like.set(2, 5);
        like.anew(0);
        check.same("bits: one run", Columns.bits(like, 0), "0000001000" + "0010");
        check.same("bit(0, 13)", like.bit(0, 13), 0);
        check.same("bit(0, 14)", like.bit(0, 14), -1);
        check.same("bit(0, greatest int)", like.bit(0, Integer.MAX_VALUE), -1);
        check.refuses(like, "bit(1, 0)", Columns.INDEX, () -> like.bit(1, 0));
        check.refuses(like, "bit(-1, 0)", Columns.INDEX, () -> like.bit(-1, 0));
        check.refuses(like, "bit(1, -1)", Columns.INDEX, () -> like.bit(1, -1));
        check.refuses(like, "bit(0, -1)", Columns.ARGUMENT, () -> like.bit(0, -1));

        PickedForms unlike = new PickedForms();
        unlike.set(0, 2);
        unlike.set(2, 17);
        Columns.loaded(unlike, "0,0,1,2,3,4,5,6,7,8,9,10,11,12,13,14");
        check.same("bits: 15 unlike values, form", unlike.block(0, 0), 4);
        check.same("bits: 15 unlike values", Columns.bits(unlike, 0).length(), 4 + 150 + 64);
        check.same("bits: the last rank", unlike.bit(0, 217), 0);
        check.same("bits: beyond the last rank", unlike.bit(0, 218), -1);
    }

    private static void bitsBehindChange() {
        PickedForms x = Columns.block(PACKED);
        x.change(0, 102);
        x.change(1, 103);
        check.same("bits in less than the room", Columns.bits(x, 0), "0001100110" + "0001" + "0110");
    }

    private static void count() {
        PickedForms x = allForms();
        check.same("count(0)", x.count(0), 26);
        check.same("count(1)", x.count(1), 5);
        check.same("count(2)", x.count(2), 2);
        check.same("count(3)", x.count(3), 20 + 22 + 28 + 29 + 29 + 35 + 20);
        check.same("count(4)", x.count(4), 0);
        check.same("count(5)", x.count(5), 5);
        check.same("count(6)", x.count(6), 0);
        check.same("count(7)", x.count(7), 1000 + 406 + 1815 + 38 + 1998 + 110);
        check.same("count(8)", x.count(8), 6);
        x.change(3, 103);
        x.change(2, 103);
        x.change(5, 103);
        x.change(7, 4);
        check.same("count(4) behind changes", x.count(4), 3);
        check.same("count(5) behind changes", x.count(5), 6);
        check.same("count(6) behind changes", x.count(6), 8);
        x.undo();
        check.same("count(5) behind undo()", x.count(5), 5);
        x.undo();
        check.same("count(4) behind undo()", x.count(4), 2);
        check.refuses(x, "count(-1)", Columns.ARGUMENT, () -> x.count(-1));
        check.refuses(x, "count(9)", Columns.ARGUMENT, () -> x.count(9));
    }

    private static void setting() {
        PickedForms x = new PickedForms();
        x.set(0, 3);
        x.set(1, 4);
        x.set(2, 5);
        check.same("setting(0)", x.setting(0), 3);
        check.same("setting(1)", x.setting(1), 4);
        check.same("setting(2)", x.setting(2), 5);
        check.refuses(x, "setting(-1)", Columns.INDEX, () -> x.setting(-1));
        check.refuses(x, "setting(3)", Columns.INDEX, () -> x.setting(3));
    }

    private static void matches(PickedForms x, int least, int greatest, String due) {
        StringBuilder all = new StringBuilder();
        for (int what = 0; what <= 3; what++) {
            all.append(what == 0 ? "" : " ").append(x.match(least, greatest, what));
        }
        check.same("match(" + least + ", " + greatest + ") of " + Columns.values(x),
                all.toString(), due);
    }

    private static void matchInForms() {
        PickedForms plain = Columns.block(PLAIN);
        matches(plain, 0, 500, "1 1 3 0");
        matches(plain, 2, 998, "0 0 3 -1");
        matches(plain, 1, 999, "2 2 1 0");
        matches(plain, 0, 0, "0 0 1 -1");
        PickedForms packed = Columns.block(PACKED);
        matches(packed, 102, 200, "2 2 5 2");
        matches(packed, 104, 200, "0 0 1 -1");
        matches(packed, 103, 200, "1 1 5 2");
        matches(packed, 0, 99, "0 0 1 -1");
        matches(packed, 0, 100, "1 1 5 0");
        matches(packed, 0, 103, "4 4 1 0");
        matches(packed, 0, 102, "3 3 5 0");
        matches(packed, 101, 100, "0 0 1 -1");
        PickedForms runs = Columns.block(RUNS);
        matches(runs, 0, 899, "5 5 3 0");
        matches(runs, 900, 900, "2 2 3 5");
        matches(runs, 4, 899, "0 0 3 -1");
        PickedForms deltas = Columns.block(DELTAS);
        matches(deltas, 7, 9, "3 3 7 3");
        matches(deltas, 6, 6, "0 0 7 -1");
        PickedForms listed = Columns.block(LISTED);
        matches(listed, 0, 500, "3 3 8 0");
        matches(listed, 1, 999, "2 2 8 1");
        matches(listed, 1, 998, "0 0 8 -1");
        matches(listed, 998, 1, "0 0 1 -1");
    }

    private static void matchOverBlocks() {
        PickedForms x = allForms();
        matches(x, 0, 999, "26 26 7 0");
        matches(x, 999, 0, "0 0 7 -1");
        matches(x, 50, 50, "1 1 18 24");
        matches(x, 100, 101, "2 2 22 2");
        matches(x, 800, 950, "2 2 18 11");
        check.same("match(): looks asked first", allForms().match(800, 950, 2), 18);
        x.match(0, 999, 0);
        check.same("match(): looks of the call itself", x.match(800, 950, 2), 18);
        matches(new PickedForms(), 0, 999, "0 0 0 -1");
        matches(Columns.of(4, 5, 6), 6, 5, "0 0 3 -1");
        matches(Columns.of(4, 5, 6), 5, 6, "2 2 3 1");
    }

    private static void matchIsRefused() {
        PickedForms x = Columns.of(1);
        check.refuses(x, "match(-1, 0, 0)", Columns.ARGUMENT, () -> x.match(-1, 0, 0));
        check.refuses(x, "match(1000, 0, 0)", Columns.ARGUMENT, () -> x.match(1000, 0, 0));
        check.refuses(x, "match(0, -1, 0)", Columns.ARGUMENT, () -> x.match(0, -1, 0));
        check.refuses(x, "match(0, 1000, 0)", Columns.ARGUMENT, () -> x.match(0, 1000, 0));
        check.refuses(x, "match(0, 0, -1)", Columns.ARGUMENT, () -> x.match(0, 0, -1));
        check.refuses(x, "match(0, 0, 4)", Columns.ARGUMENT, () -> x.match(0, 0, 4));
    }

    private static void nothingIsChanged() {
        PickedForms x = allForms();
        long before = x.digest();
        numbers(x, 3);
        x.block(2, 8);
        x.size(2, 4);
        x.bit(2, 5);
        x.count(6);
        x.setting(2);
        x.match(5, 600, 2);
        x.ifChanged(4, 900, 1);
        x.bestSplit(2);
        x.least(1);
        x.sizeShare();
        x.meanBits();
        check.same("looks change nothing", x.digest(), before);
    }
}
