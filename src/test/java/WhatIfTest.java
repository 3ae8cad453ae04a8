/** Promises 24 to 29: ifChanged, bestSplit, least, sizeShare, meanBits, digest. */
final class WhatIfTest {

    private static final Check check = new Check("WhatIfTest");

    public static void main(String[] args) {
        ifChanged();
        ifChangedTellsWhatChangeDoes();
        ifChangedIsRefused();
        bestSplit();
        bestSplitTellsWhatSplitDoes();
        least();
        leastBlocks();
        leastAllowed();
        shares();
        digest();
        digestOfState();
        check.end();
    }

    private static void ifChanged() {
        PickedForms x = Columns.block(100, 101, 103, 102);
        x.write(7);
        check.same("ifChanged() in the tail", x.ifChanged(4, 999, 0), 0);
        check.same("ifChanged() in the tail: bits", x.ifChanged(4, 999, 1), 0);
        check.same("ifChanged() in place", x.ifChanged(1, 103, 0), 1);
        check.same("ifChanged() in place: bits", x.ifChanged(1, 100, 1), 0);
        check.same("ifChanged() anew", x.ifChanged(2, 104, 0), 2);
        check.same("ifChanged() anew: bits", x.ifChanged(2, 104, 1), 1);
        check.same("ifChanged() anew: bits", x.ifChanged(0, 900, 1), 18);
        check.same("ifChanged() changes nothing", Columns.values(x), "100,101,103,102,7");
        check.same("ifChanged() saves no state", x.count(8), 6);

        PickedForms y = Columns.block(7, 7, 500, 500, 7, 7, 7, 7);
        y.set(0, 4);
        y.set(2, 5);
        y.anew(0);
        check.same("ifChanged() that gets less: room", y.block(0, 3), 42);
        y.set(2, 31);
        y.set(0, 16);
        check.same("ifChanged() that gets less", y.ifChanged(2, 7, 0), 1);
        check.same("ifChanged() that gets less", y.ifChanged(6, 500, 0), 2);
        check.same("ifChanged() that gets less: bits", y.ifChanged(6, 500, 1), -10);
    }

    private static void ifChangedTellsWhatChangeDoes() {
        PickedForms x = Columns.block(3, 3, 3, 3, 3, 900, 900);
        Columns.addBlock(x, 5, 5, 5, 7, 7, 9);
        Columns.addBlock(x, 0, 999, 0, 999, 0);
        x.write(12);
        for (int index = 0; index < x.count(0); index++) {
            for (int value = 0; value <= 999; value += 111) {
                int outcome = x.ifChanged(index, value, 0);
                int growth = x.ifChanged(index, value, 1);
                int before = x.count(3);
                check.same("ifChanged(.., 0) is change()", x.change(index, value), outcome);
                check.same("ifChanged(.., 1) is what count(3) grows by",
                        x.count(3) - before, growth);
                x.undo();
            }
        }
    }

    private static void ifChangedIsRefused() {
        PickedForms x = Columns.of(1, 2);
        check.refuses(x, "ifChanged(2, 0, 0)", Columns.INDEX, () -> x.ifChanged(2, 0, 0));
        check.refuses(x, "ifChanged(-1, 1000, 2)", Columns.INDEX, () -> x.ifChanged(-1, 1000, 2));
        check.refuses(x, "ifChanged(0, 1000, 0)", Columns.ARGUMENT, () -> x.ifChanged(0, 1000, 0));
        check.refuses(x, "ifChanged(0, -1, 0)", Columns.ARGUMENT, () -> x.ifChanged(0, -1, 0));
        check.refuses(x, "ifChanged(0, 0, 2)", Columns.ARGUMENT, () -> x.ifChanged(0, 0, 2));
        check.refuses(x, "ifChanged(0, 0, -1)", Columns.ARGUMENT, () -> x.ifChanged(0, 0, -1));
    }

    private static void bestSplit() {
        PickedForms x = Columns.block(1, 1, 1, 1, 900, 900, 900, 900);
        check.same("bestSplit() between runs", x.bestSplit(0), 4);
        Columns.addBlock(x, 5);
        check.same("bestSplit() of one value", x.bestSplit(1), -1);
        Columns.addBlock(x, 5, 800);
        check.same("bestSplit() of two values", x.bestSplit(2), 1);
        Columns.addBlock(x, 1, 500, 999);
        check.same("bestSplit(): of several the least", x.bestSplit(3), 1);
        Columns.addBlock(x, 1, 1, 1, 900);
        check.same("bestSplit() at the last place", x.bestSplit(4), 3);
        check.refuses(x, "bestSplit(5)", Columns.INDEX, () -> x.bestSplit(5));
        check.refuses(x, "bestSplit(-1)", Columns.INDEX, () -> x.bestSplit(-1));

        PickedForms y = Columns.twelveShort();
        y.drop(11);
        Columns.addBlock(y, 1, 1, 1, 1, 900, 900, 900, 900);
        check.same("bestSplit() with 12 blocks", y.bestSplit(11), 4);
    }

    private static void bestSplitTellsWhatSplitDoes() {
        PickedForms x = Columns.block(7, 7, 7, 500, 20, 21, 22, 23, 24, 900, 3, 3, 3, 3, 999, 0);
        for (int sample = 1; sample <= 16; sample += 3) {
            x.set(0, sample);
            int best = 0;
            int most = Integer.MIN_VALUE;
            for (int place = 1; place < 16; place++) {
                int gain = x.split(0, place);
                x.undo();
                if (gain > most) {
                    most = gain;
                    best = place;
                }
            }
            check.same("bestSplit() by a sample of " + sample, x.bestSplit(0), best);
        }
    }

    private static void leasts(PickedForms x, int bits, int blocks) {
        String values = Columns.values(x);
        check.same("least(0) of " + values, x.least(0), bits);
        check.same("least(1) of " + values, x.least(1), bits);
        check.same("least(2) of " + values, x.least(2), blocks);
    }

    private static void least() {
        PickedForms x = new PickedForms();
        leasts(x, 0, 0);
        x.write(5);
        leasts(x, 17, 1);
        x.write(5);
        leasts(x, 21, 1);
        x.close();
        leasts(x, 21, 1);
        leasts(Columns.of(5, 5, 5, 7, 7, 9), 36, 1);
        leasts(Columns.of(0, 0, 0, 0, 0, 0, 0, 0, 0, 0, 0, 0, 0, 0, 0, 0, 0), 38, 2);
        leasts(Columns.of(5, 5, 5, 5, 5, 5, 5, 5, 100, 900, 300, 700, 50, 999, 250, 620),
                21 + 87, 2);
        PickedForms full = Columns.full();
        leasts(full, 12 * 21, 12);
        Columns.loaded(full, "2*15");
        leasts(full, 13 * 21, 13);
        check.refuses(full, "least(-1)", Columns.ARGUMENT, () -> full.least(-1));
        check.refuses(full, "least(3)", Columns.ARGUMENT, () -> full.least(3));
    }

    private static void leastBlocks() {
        PickedForms two = Columns.of(1, 1, 1, 1, 900, 900, 900, 900);
        leasts(two, 35, 1);
        PickedForms apart = Columns.block(1, 1);
        Columns.addBlock(apart, 1, 1);
        leasts(apart, 21, 1);
        PickedForms unlike = Columns.of(0, 999, 1, 998, 2, 997, 3, 996);
        leasts(unlike, 87, 1);
        PickedForms many = new PickedForms();
        Columns.loaded(many, "1*16,500*16,1*16,500*16,1*16,500*16,1*16,500*16,1*16");
        Columns.loaded(many, "500*16,1*16,500*16,1,9");
        leasts(many, 12 * 21 + 26, 13);
        PickedForms tie = Columns.of(1, 1, 1, 1, 1, 1, 900);
        tie.set(2, 19);
        leasts(tie, 38, 1);
    }

    private static void leastAllowed() {
        PickedForms x = Columns.of(5, 5, 5, 7, 7, 9);
        x.set(0, 1);
        leasts(x, 36, 1);
        x.set(2, 1);
        leasts(x, 67, 1);
        x.set(2, 3);
        leasts(x, 39, 1);
        x.set(2, 5);
        leasts(x, 49, 1);
        x.set(2, 17);
        leasts(x, 53, 1);
        PickedForms y = Columns.block(5, 5, 5, 5, 5, 5, 5, 5, 5, 5, 5, 5, 5, 5, 5, 5);
        y.set(2, 1);
        leasts(y, 167, 1);
        y.write(3);
        leasts(y, 184, 2);
    }

    private static void shares() {
        PickedForms x = new PickedForms();
        check.same("sizeShare() without values", x.sizeShare(), 1.0);
        check.same("meanBits() without values", x.meanBits(), 0.0f);
        Columns.writeAll(x, 1, 2, 3);
        check.same("sizeShare() of a tail", x.sizeShare(), 1.0);
        check.same("meanBits() of a tail", x.meanBits(), 10.0f);
        x.close();
        check.same("sizeShare() of a block", x.sizeShare(), 25.0 / 30.0);
        check.same("meanBits() of a block", x.meanBits(), 25.0f / 3.0f);
        x.write(3);
        check.same("sizeShare() of both", x.sizeShare(), 35.0 / 40.0);
        check.same("meanBits() of both", x.meanBits(), 35.0f / 4.0f);
        x.change(0, 3);
        x.change(1, 3);
        check.same("sizeShare() counts the room", x.sizeShare(), 35.0 / 40.0);
    }

    /** The hash as the document tells it, by the calls of the face alone. */
    private static long due(PickedForms x, boolean snapshot, String buffer) {
        long[] hash = {3631L};
        for (int what = 0; what <= 8; what++) {
            mix(hash, x.count(what));
        }
        for (int i = 0; i < 3; i++) {
            mix(hash, x.setting(i));
        }
        for (int i = 0; i < x.count(0); i++) {
            for (int what = 0; what <= 3; what++) {
                mix(hash, x.value(i, what));
            }
        }
        for (int block = 0; block < x.count(1); block++) {
            for (int what = 0; what <= 9; what++) {
                mix(hash, x.block(block, what));
            }
            for (int form = 0; form < 5; form++) {
                mix(hash, x.size(block, form));
            }
            for (int i = 0; i < x.block(block, 2); i++) {
                mix(hash, x.bit(block, i));
            }
            mix(hash, x.bestSplit(block));
        }
        int[] ranges = {0, 99, 100, 499, 0, 999};
        for (int i = 0; i < 6; i += 2) {
            for (int what = 0; what <= 3; what++) {
                mix(hash, x.match(ranges[i], ranges[i + 1], what));
            }
        }
        for (int what = 0; what <= 2; what++) {
            mix(hash, x.least(what));
        }
        mix(hash, Double.doubleToLongBits(x.sizeShare()));
        mix(hash, Float.floatToIntBits(x.meanBits()));
        mix(hash, snapshot ? 1 : 0);
        mix(hash, buffer.length());
        for (int i = 0; i < buffer.length(); i++) {
            mix(hash, buffer.charAt(i));
        }
        return hash[0];
    }

    private static void mix(long[] hash, long number) {
        hash[0] = 31 * hash[0] + number;
    }

    private static void digest() {
        PickedForms x = new PickedForms();
        check.same("digest() of a new object", x.digest(), due(x, false, ""));
        Columns.writeAll(x, 5, 5, 5, 7, 7, 9);
        check.same("digest() of a tail", x.digest(), due(x, false, ""));
        x.close();
        check.same("digest() of a block", x.digest(), due(x, false, ""));
        x.keep();
        check.same("digest() with a snapshot", x.digest(), due(x, true, ""));
        Columns.appendAll(x, "0*16,1*16!");
        check.same("digest() with a buffer", x.digest(), due(x, true, "0*16,1*16!"));
        x.clearBuffer();
        Columns.addBlock(x, 5);
        Columns.addBlock(x, 0, 999, 0, 999, 0);
        Columns.addBlock(x, 3, 3, 3, 3, 3, 900, 900);
        Columns.addBlock(x, 100, 101, 103, 102);
        Columns.writeAll(x, 120, 450, 450);
        x.change(7, 5);
        x.change(20, 102);
        check.same("digest() of all forms", x.digest(), due(x, true, ""));
        PickedForms edges = Columns.of(0, 98, 99, 100, 101, 498, 499, 500, 998, 999);
        check.same("digest() at the edges of its matches", edges.digest(), due(edges, false, ""));
        PickedForms full = Columns.full();
        Columns.loaded(full, "999*15");
        check.same("digest() of a full column", full.digest(), due(full, false, ""));
    }

    private static void digestOfState() {
        PickedForms x = Columns.block(100, 101, 103, 102);
        check.same("digest() of the same calls", x.digest(),
                Columns.block(100, 101, 103, 102).digest());
        long before = x.digest();
        check.same("digest() twice", x.digest(), before);
        x.keep();
        check.same("digest() tells the snapshot", x.digest() == before ? 1 : 0, 0);
        before = x.digest();
        x.append(53);
        check.same("digest() tells the buffer", x.digest() == before ? 1 : 0, 0);
        before = x.digest();
        x.set(0, 15);
        check.same("digest() tells the settings", x.digest() == before ? 1 : 0, 0);
    }
}
