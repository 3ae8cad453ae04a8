/** Promises 24 to 29 at their edges: ifChanged, bestSplit, least, the shares, digest. */
final class WhatIfEdgesTest {

    private static final Check check = new Check("WhatIfEdgesTest");
    private static final Twins twins = new Twins(check);

    public static void main(String[] args) {
        Edges.run(WhatIfEdgesTest.class, check);
    }

    /** One block, written anew by this sample and these forms; then all is allowed again. */
    private static PickedForms by(int sample, int allowed, int... values) {
        PickedForms x = new PickedForms();
        x.set(0, sample);
        x.set(2, allowed);
        Columns.addBlock(x, values);
        x.set(0, 16);
        x.set(2, 31);
        return x;
    }

    // ---- promise 24: ifChanged

    private static void ifChanged(PickedForms x, int index, int value, String due) {
        String told = x.ifChanged(index, value, 0) + " " + x.ifChanged(index, value, 1);
        check.same("ifChanged(" + index + ", " + value + ")", told, due);
        int before = x.count(3);
        int outcome = x.change(index, value);
        check.same("change(" + index + ", " + value + ")",
                outcome + " " + (x.count(3) - before), due);
        x.undo();
    }

    @Says({"Tells what a change would do.", "`index`: the index of a value",
        "`what`: 0: what change() would return; 1: by how many bits count(3) would become "
            + "greater by it (below 0 if it became less)", "Returns the number."})
    static void promise24_letsInTheFirstAndTheLastIndex() {
        ifChanged(Columns.rich(), 0, 0, "1 0");
        ifChanged(Columns.rich(), 26, 0, "0 0");
        ifChanged(Columns.brimful(), 0, 1, "2 14");
        ifChanged(Columns.brimful(), 206, 0, "0 0");
    }

    @Says("Throws `IndexOutOfBoundsException` if there is no such value")
    static void promise24_refusesAnIndexThatIsNone() {
        int[] none = {-1, 28, Integer.MIN_VALUE, Integer.MAX_VALUE};
        for (int index : none) {
            twins.refused("ifChanged(" + index + ", 5, 0)", Columns::richWithSixStates,
                    Columns.INDEX, x -> x.ifChanged(index, 5, 0));
            twins.refused("ifChanged(" + index + ", 5, 1)", Columns::richWithSixStates,
                    Columns.INDEX, x -> x.ifChanged(index, 5, 1));
        }
        twins.refused("ifChanged(0, 5, 0)", PickedForms::new, Columns.INDEX,
                x -> x.ifChanged(0, 5, 0));
        twins.refused("ifChanged(207, 5, 0)", Columns::brimfulWithAll, Columns.INDEX,
                x -> x.ifChanged(207, 5, 0));
    }

    @Says("`value`: 0 to 999")
    static void promise24_letsIn0And999() {
        ifChanged(Columns.rich(), 0, 0, "1 0");
        ifChanged(Columns.rich(), 0, 999, "1 0");
        ifChanged(Columns.rich(), 26, 0, "0 0");
        ifChanged(Columns.rich(), 26, 999, "0 0");
    }

    @Says("Throws `IllegalArgumentException` if value or what is out of range")
    static void promise24_refusesAValueThatIsNone() {
        int[] none = {-1, 1000, Integer.MIN_VALUE, Integer.MAX_VALUE};
        for (int value : none) {
            twins.refused("ifChanged(0, " + value + ", 0)", Columns::richWithSixStates,
                    Columns.ARGUMENT, x -> x.ifChanged(0, value, 0));
            twins.refused("ifChanged(26, " + value + ", 1)", Columns::richWithSixStates,
                    Columns.ARGUMENT, x -> x.ifChanged(26, value, 1));
        }
    }

    @Says("Throws `IllegalArgumentException` if value or what is out of range")
    static void promise24_refusesAWhatThatIsNone() {
        int[] none = {-1, 2, Integer.MIN_VALUE, Integer.MAX_VALUE};
        for (int what : none) {
            twins.refused("ifChanged(0, 5, " + what + ")", Columns::richWithSixStates,
                    Columns.ARGUMENT, x -> x.ifChanged(0, 5, what));
            twins.refused("ifChanged(26, 5, " + what + ")", Columns::richWithSixStates,
                    Columns.ARGUMENT, x -> x.ifChanged(26, 5, what));
        }
    }

    @Says("If several exceptions apply, the one that is named first in the throws clause "
        + "is thrown.")
    static void promise24_refusesTheIndexFirst() {
        twins.refused("ifChanged(-1, 1000, 2)", Columns::rich, Columns.INDEX,
                x -> x.ifChanged(-1, 1000, 2));
        twins.refused("ifChanged(27, 5, 2)", Columns::rich, Columns.INDEX,
                x -> x.ifChanged(27, 5, 2));
        twins.refused("ifChanged(0, -1, 0)", PickedForms::new, Columns.INDEX,
                x -> x.ifChanged(0, -1, 0));
    }

    @Says("0: what change() would return;")
    static void promise24_atTheRoom() {
        ifChanged(Columns.block(3, 1), 1, 2, "1 0");
        ifChanged(Columns.block(3, 1), 1, 1, "1 0");
        ifChanged(Columns.block(3, 1), 1, 4, "1 0");
        ifChanged(Columns.block(3, 1), 1, 0, "2 1");
    }

    @Says("1: by how many bits count(3) would become greater by it (below 0 if it became less)")
    static void promise24_becomesLess() {
        PickedForms x = by(2, 5, 0, 0, 999, 0, 999);
        check.same("runs of 56", x.block(0, 0) + " " + x.block(0, 3), "2 56");
        ifChanged(x, 1, 5, "2 -12");
        PickedForms y = by(2, 5, 0, 0, 999, 1);
        check.same("runs of 42", y.block(0, 0) + " " + y.block(0, 3), "2 42");
        ifChanged(y, 1, 5, "2 -2");
    }

    @Says("1: by how many bits count(3) would become greater by it (below 0 if it became less)")
    static void promise24_anewWithTheSameRoom() {
        PickedForms x = Columns.block(7, 7, 7, 999);
        check.same("runs of 28", x.block(0, 0) + " " + x.block(0, 3), "2 28");
        ifChanged(x, 1, 999, "2 0");
    }

    @Says("1: by how many bits count(3) would become greater by it (below 0 if it became less)")
    static void promise24_byTheSettingsOfNow() {
        PickedForms x = Columns.block(3, 1);
        x.set(2, 1);
        ifChanged(x, 1, 0, "2 4");
        x.set(2, 31);
        x.set(0, 1);
        ifChanged(x, 1, 0, "2 4");
    }

    @Says("0: what change() would return;")
    static void promise24_atTheEdgesOfBlocksAndTail() {
        PickedForms x = Columns.block(100, 101, 103, 102);
        Columns.addBlock(x, 1, 999);
        x.write(9);
        ifChanged(x, 3, 900, "2 18");
        ifChanged(x, 4, 500, "1 0");
        ifChanged(x, 5, 0, "1 0");
        ifChanged(x, 6, 999, "0 0");
    }

    @Says("---- what would be; nothing is changed.")
    static void promise24_changesNothing() {
        int[] indexes = {0, 2, 8, 16, 20, 26};
        for (int index : indexes) {
            for (int number = 0; number <= 1; number++) {
                int what = number;
                String due = Long.toString(
                        Columns.richWithSixStates().ifChanged(index, 500, what));
                twins.looks("ifChanged(" + index + ", 500, " + what + ")",
                        Columns::richWithSixStates, due, x -> x.ifChanged(index, 500, what));
            }
        }
    }

    // ---- promise 25: bestSplit

    @Says({"Finds the best place to split a block.", "`block`: its number"})
    static void promise25_letsInTheFirstAndTheLastBlock() {
        PickedForms x = Columns.rich();
        check.same("bestSplit(0)", x.bestSplit(0), 1);
        check.same("bestSplit(4)", x.bestSplit(4), placeBySplitting(Columns::rich, 4, 5));
        check.same("bestSplit(11)", Columns.brimful().bestSplit(11), 1);
    }

    private static int placeBySplitting(Twins.Maker maker, int block, int values) {
        int best = 0;
        int most = Integer.MIN_VALUE;
        for (int place = 1; place < values; place++) {
            int gain = maker.make().split(block, place);
            if (gain > most) {
                most = gain;
                best = place;
            }
        }
        return best;
    }

    @Says("Throws `IndexOutOfBoundsException` if there is no such block")
    static void promise25_refusesABlockThatIsNone() {
        int[] none = {-1, 5, Integer.MIN_VALUE, Integer.MAX_VALUE};
        for (int block : none) {
            twins.refused("bestSplit(" + block + ")", Columns::richWithSixStates, Columns.INDEX,
                    x -> x.bestSplit(block));
        }
        twins.refused("bestSplit(0)", PickedForms::new, Columns.INDEX, x -> x.bestSplit(0));
        twins.refused("a tail alone", () -> Columns.of(1, 2), Columns.INDEX,
                x -> x.bestSplit(0));
        twins.refused("bestSplit(12)", Columns::brimfulWithAll, Columns.INDEX,
                x -> x.bestSplit(12));
    }

    @Says("NONE if it has one value.")
    static void promise25_noneForOneValue() {
        check.same("one value", Columns.block(5).bestSplit(0), PickedForms.NONE);
        check.same("two values", Columns.block(5, 5).bestSplit(0), 1);
        check.same("the last of 12 blocks of one", Columns.twelveShort().bestSplit(11), -1);
    }

    @Says("of several the least;")
    static void promise25_ofSeveralTheLeast() {
        check.same("two places of like rooms", Columns.block(1, 500, 999).bestSplit(0), 1);
        check.same("all places of like rooms", by(16, 1, 5, 6, 7, 8, 9).bestSplit(0),
                placeBySplitting(() -> by(16, 1, 5, 6, 7, 8, 9), 0, 5));
        PickedForms plain = Columns.of(5, 900, 7, 300, 9, 600);
        plain.set(2, 1);
        plain.close();
        check.same("plain alone", plain.bestSplit(0), 1);
        PickedForms two = new PickedForms();
        two.set(2, 1);
        Columns.loaded(two, "7*16");
        check.same("plain alone, 16 values", two.bestSplit(0), 1);
    }

    @Says("Returns the place for which split() would return the most (also if there are 12 "
        + "blocks), of several the least;")
    static void promise25_atTheFirstAndTheLastPlace() {
        PickedForms last = new PickedForms();
        Columns.loaded(last, "5*15,900");
        check.same("the last place", last.bestSplit(0), 15);
        PickedForms first = new PickedForms();
        Columns.loaded(first, "900,5*15");
        check.same("the first place", first.bestSplit(0), 1);
    }

    @Says("(also if there are 12 blocks)")
    static void promise25_with12Blocks() {
        PickedForms x = Columns.twelveShort();
        x.drop(0);
        Columns.addBlock(x, 1, 1, 1, 1, 900, 900);
        check.same("blocks", x.count(1), 12);
        check.same("bestSplit(11)", x.bestSplit(11), 4);
        check.same("split(11, 4)", Check.answer(() -> x.split(11, 4)),
                "throws.IllegalStateException");
    }

    @Says("Returns the place for which split() would return the most")
    static void promise25_byTheSettingsOfNow() {
        for (int sample = 1; sample <= 8; sample++) {
            int number = sample;
            Twins.Maker maker = () -> {
                PickedForms x = Columns.block(7, 7, 500, 20, 21, 22, 23, 3, 3, 3);
                x.set(0, number);
                return x;
            };
            check.same("a sample of " + sample, maker.make().bestSplit(0),
                    placeBySplitting(maker, 0, 10));
        }
    }

    @Says("---- what would be; nothing is changed.")
    static void promise25_changesNothing() {
        twins.looks("bestSplit(2)", Columns::richWithSixStates, "5", x -> x.bestSplit(2));
        twins.looks("bestSplit(0)", Columns::brimfulWithAll, "1", x -> x.bestSplit(0));
    }

    // ---- promise 26: least

    private static void leasts(String what, PickedForms x, int bits, int blocks) {
        check.same(what + ": least(0)", x.least(0), bits);
        check.same(what + ": least(1)", x.least(1), bits);
        check.same(what + ": least(2)", x.least(2), blocks);
    }

    @Says("Throws `IllegalArgumentException` if what is not 0 to 2")
    static void promise26_refusesAWhatThatIsNone() {
        int[] none = {-1, 3, Integer.MIN_VALUE, Integer.MAX_VALUE};
        for (int what : none) {
            twins.refused("least(" + what + ")", PickedForms::new, Columns.ARGUMENT,
                    x -> x.least(what));
            twins.refused("least(" + what + ")", Columns::richWithSixStates, Columns.ARGUMENT,
                    x -> x.least(what));
        }
    }

    @Says("Returns the number; 0 without values.")
    static void promise26_is0WithoutValues() {
        leasts("a new object", new PickedForms(), 0, 0);
        PickedForms x = Columns.block(5);
        x.drop(0);
        leasts("all is dropped", x, 0, 0);
    }

    private static PickedForms of(String text) {
        PickedForms x = new PickedForms();
        Columns.loaded(x, text);
        return x;
    }

    @Says({"Tells the fewest bits for the column, if all its values, those of the tail, too, "
        + "were parted anew into blocks of 1 to 16 values, each in the allowed form in which it "
        + "has the fewest bits, with 7 bits more for each block; however many blocks that are.",
        "`what`: 0: the bits, told from the first value on; 1: the bits, told from the last "
            + "value on; 2: the blocks, how many, of several ways with as many bits the fewest"})
    static void promise26_blocksOf1To16Values() {
        leasts("1 value", of("7"), 17, 1);
        leasts("2 like values", of("7,7"), 21, 1);
        leasts("15 like values", of("7*15"), 21, 1);
        leasts("16 like values", of("7*16"), 21, 1);
        leasts("17 like values", of("7*16,7"), 38, 2);
        leasts("18 like values", of("7*16,7*2"), 42, 2);
        leasts("32 like values", of("7*16,7*16"), 42, 2);
        leasts("33 like values", of("7*16,7*16,7"), 59, 3);
    }

    @Says("if all its values, those of the tail, too, were parted anew into blocks")
    static void promise26_theTailAndTheBlocksOfNowDoNotCount() {
        leasts("a tail", Columns.of(5, 5, 5, 7, 7, 9), 36, 1);
        leasts("a block", Columns.block(5, 5, 5, 7, 7, 9), 36, 1);
        PickedForms both = Columns.block(5, 5, 5);
        Columns.writeAll(both, 7, 7, 9);
        leasts("a block and a tail", both, 36, 1);
        PickedForms many = Columns.block(5);
        Columns.addBlock(many, 5);
        Columns.addBlock(many, 5, 7, 7);
        Columns.addBlock(many, 9);
        leasts("four blocks", many, 36, 1);
    }

    @Says("however many blocks that are.")
    static void promise26_moreThan12Blocks() {
        leasts("192 values", Columns.full(), 12 * 21, 12);
        PickedForms x = Columns.full();
        x.write(9);
        leasts("193 values", x, 12 * 21 + 17, 13);
        leasts("207 values", Columns.brimful(), 13 * 21, 13);
    }

    @Says("however many blocks that are.")
    static void promise26_ofTheFullColumnInPlainAlone() {
        PickedForms x = Columns.brimful();
        x.set(2, 1);
        leasts("207 plain values", x, 2070 + 13 * 7, 13);
        PickedForms full = Columns.full();
        full.set(2, 1);
        leasts("192 plain values", full, 1920 + 12 * 7, 12);
    }

    @Says("each in the allowed form in which it has the fewest bits")
    static void promise26_theAllowedFormsOfNow() {
        PickedForms x = Columns.block(5, 5, 5, 7, 7, 9);
        int[] masks = {1, 3, 5, 9, 17, 31};
        int[] bits = {67, 39, 49, 36, 53, 36};
        for (int i = 0; i < masks.length; i++) {
            x.set(2, masks[i]);
            leasts("mask " + masks[i], x, bits[i], 1);
        }
    }

    @Says("each in the allowed form in which it has the fewest bits")
    static void promise26_theSampleDoesNotCount() {
        PickedForms x = Columns.block(5, 5, 5, 7, 7, 9);
        x.set(0, 1);
        leasts("a sample of 1", x, 36, 1);
        x.set(0, 2);
        leasts("a sample of 2", x, 36, 1);
    }

    @Says("2: the blocks, how many, of several ways with as many bits the fewest")
    static void promise26_theFewestBlocksOfAsManyBits() {
        PickedForms x = of("0*3,4*4");
        x.set(2, 3);
        leasts("42 bits in one block and in two", x, 42, 1);
        PickedForms y = of("1*6,900");
        y.set(2, 19);
        leasts("38 bits in one block and in two", y, 38, 1);
        PickedForms z = of("0*3,4*4,900");
        z.set(2, 3);
        leasts("42 and 17 bits in two blocks and in three", z, 59, 2);
    }

    @Says("---- what would be; nothing is changed.")
    static void promise26_changesNothing() {
        for (int number = 0; number <= 2; number++) {
            int what = number;
            twins.looks("least(" + what + ")", Columns::brimfulWithAll,
                    Long.toString(Columns.brimfulWithAll().least(what)), x -> x.least(what));
        }
    }

    // ---- promise 27: sizeShare

    @Says({"Returns how much the forms save.",
        "Returns count(3) as a double, divided by 10 times the values; 1.0 without values."})
    static void promise27_is1WithoutValues() {
        check.same("a new object", new PickedForms().sizeShare(), 1.0);
        PickedForms x = Columns.block(5);
        x.drop(0);
        check.same("all is dropped", x.sizeShare(), 1.0);
    }

    @Says("Returns count(3) as a double, divided by 10 times the values; 1.0 without values.")
    static void promise27_ofOneValueAndOfAFullColumn() {
        check.same("a tail of 1", Columns.of(5).sizeShare(), 1.0);
        check.same("a block of 1", Columns.block(5).sizeShare(), 1.7);
        check.same("207 values", Columns.brimful().sizeShare(), 402.0 / 2070.0);
        check.same("192 values", Columns.full().sizeShare(), 252.0 / 1920.0);
    }

    @Says("All numbers are integers, but for two shares; divisions are rounded down.")
    static void promise27_isNotRounded() {
        check.same("25 of 30", Columns.block(1, 2, 3).sizeShare(), 25.0 / 30.0);
        check.same("193 of 270", Columns.rich().sizeShare(), 193.0 / 270.0);
    }

    // ---- promise 28: meanBits

    @Says({"Returns how many bits a value takes.",
        "Returns count(3) as a float, divided by the values; 0.0f without values."})
    static void promise28_is0WithoutValues() {
        check.same("a new object", new PickedForms().meanBits(), 0.0f);
        PickedForms x = Columns.block(5);
        x.drop(0);
        check.same("all is dropped", x.meanBits(), 0.0f);
    }

    @Says("Returns count(3) as a float, divided by the values; 0.0f without values.")
    static void promise28_ofOneValueAndOfAFullColumn() {
        check.same("a tail of 1", Columns.of(5).meanBits(), 10.0f);
        check.same("a block of 1", Columns.block(5).meanBits(), 17.0f);
        check.same("207 values", Columns.brimful().meanBits(), 402.0f / 207.0f);
        check.same("192 values", Columns.full().meanBits(), 1.3125f);
    }

    @Says("All numbers are integers, but for two shares; divisions are rounded down.")
    static void promise28_isAFloatThatIsNotRounded() {
        check.same("25 for 3", Columns.block(1, 2, 3).meanBits(), 25.0f / 3.0f);
        check.same("193 for 27", Columns.rich().meanBits(), 193.0f / 27.0f);
    }

    @Says("---- what would be; nothing is changed.")
    static void promise28_changesNothing() {
        twins.looks("sizeShare()", Columns::richWithSixStates, "1",
                x -> x.sizeShare() > 0.0 ? 1 : 0);
        twins.looks("meanBits()", Columns::richWithSixStates, "1",
                x -> x.meanBits() > 0.0f ? 1 : 0);
    }

    // ---- promise 29: digest

    private static long hash(long... list) {
        return hashOfAll(list);
    }

    private static long hashOfAll(long[]... lists) {
        long hash = 3631L;
        for (long[] list : lists) {
            for (long number : list) {
                hash = 31 * hash + number;
            }
        }
        return hash;
    }

    @Says({"Computes a hash of the whole state.", "The hash starts at 3631.",
        "For each value v of the following list, in order, the hash becomes 31 * hash + v, in "
            + "long arithmetic with overflow.", "Returns the hash."})
    static void promise29_ofTheEmptyColumn() {
        check.same("a new object", new PickedForms().digest(), hash(
                0, 0, 0, 0, 0, 0, 0, 0, 0, 16, 16, 31,
                0, 0, 0, -1, 0, 0, 0, -1, 0, 0, 0, -1, 0, 0, 0,
                Double.doubleToLongBits(1.0), Float.floatToIntBits(0.0f), 0, 0));
    }

    @Says("The values are: count(0) to count(8); the settings 0 to 2; for each value its numbers "
        + "0 to 3; for each block its numbers 0 to 9, size in the forms 0 to 4, its bits, and "
        + "bestSplit; match from 0 to 99, from 100 to 499 and from 0 to 999 with 0 to 3 each; "
        + "least with 0 to 2; the bits of sizeShare (as Double.doubleToLongBits); the bits of "
        + "meanBits (as Float.floatToIntBits); 1 if there is a snapshot, otherwise 0; the length "
        + "of the buffer and each of its character codes.")
    static void promise29_ofATailOfOneValue() {
        check.same("a tail of 100", Columns.of(100).digest(), hash(
                1, 0, 1, 10, 0, 0, 0, 100, 1, 16, 16, 31,
                100, -1, 0, 1,
                0, 0, 1, -1, 1, 1, 1, 0, 1, 1, 1, 0, 17, 17, 1,
                Double.doubleToLongBits(1.0), Float.floatToIntBits(10.0f), 0, 0));
    }

    @Says("for each block its numbers 0 to 9, size in the forms 0 to 4, its bits, and bestSplit;")
    static void promise29_ofABlockOfOneValue() {
        check.same("a block of 513", Columns.block(513).digest(), hash(
                1, 1, 0, 17, 0, 1, 0, 513, 2, 16, 16, 31,
                513, 0, 0, 1,
                0, 1, 10, 10, 513, 513, 1, 1, 0, 0,
                10, 14, 14, 14, 14,
                1, 0, 0, 0, 0, 0, 0, 0, 0, 1,
                -1,
                0, 0, 1, -1, 0, 0, 1, -1, 1, 1, 1, 0, 17, 17, 1,
                Double.doubleToLongBits(1.7), Float.floatToIntBits(17.0f), 0, 0));
    }

    @Says("for each block its numbers 0 to 9, size in the forms 0 to 4, its bits, and bestSplit;")
    static void promise29_ofTheBitsNotOfTheRoom() {
        PickedForms x = Columns.block(3, 1);
        x.change(1, 2);
        check.same("15 bits in a room of 16", x.digest(), hash(
                2, 1, 0, 23, 1, 1, 1, 5, 4, 16, 16, 31,
                3, 0, 0, 1, 2, 0, 1, 2,
                3, 2, 15, 16, 2, 3, 2, 2, 3, 0,
                20, 16, 28, 15, 26,
                0, 0, 0, 0, 0, 0, 0, 0, 1, 1, 0, 0, 0, 1, 1,
                1,
                2, 2, 1, 0, 0, 0, 1, -1, 2, 2, 1, 0, 22, 22, 1,
                Double.doubleToLongBits(23.0 / 20.0), Float.floatToIntBits(11.5f), 0, 0));
    }

    private static long ofBuffer(String text) {
        PickedForms x = new PickedForms();
        Columns.appendAll(x, text);
        return x.digest();
    }

    private static long dueOfBuffer(String text) {
        long[] ahead = {0, 0, 0, 0, 0, 0, 0, 0, 0, 16, 16, 31,
            0, 0, 0, -1, 0, 0, 0, -1, 0, 0, 0, -1, 0, 0, 0,
            Double.doubleToLongBits(1.0), 0, 0, text.length()};
        return hashOfAll(ahead, text.chars().asLongStream().toArray());
    }

    @Says("the length of the buffer and each of its character codes.")
    static void promise29_ofTheEmptyAndTheFullBuffer() {
        check.same("no character", ofBuffer(""), dueOfBuffer(""));
        check.same("one character", ofBuffer("!"), dueOfBuffer("!"));
        check.same("60 characters", ofBuffer("7,".repeat(29) + "!~"),
                dueOfBuffer("7,".repeat(29) + "!~"));
        PickedForms x = new PickedForms();
        Columns.appendAll(x, "5x");
        x.clearBuffer();
        check.same("a cleared buffer", x.digest(), dueOfBuffer(""));
    }

    @Says("1 if there is a snapshot, otherwise 0;")
    static void promise29_ofTheSnapshot() {
        PickedForms x = new PickedForms();
        x.keep();
        long[] list = {0, 0, 0, 0, 0, 0, 0, 0, 0, 16, 16, 31,
            0, 0, 0, -1, 0, 0, 0, -1, 0, 0, 0, -1, 0, 0, 0,
            Double.doubleToLongBits(1.0), 0, 1, 0};
        check.same("a snapshot", x.digest(), hash(list));
        x.keep();
        check.same("a second one in its place", x.digest(), hash(list));
    }

    @Says("match from 0 to 99, from 100 to 499 and from 0 to 999 with 0 to 3 each;")
    static void promise29_atTheEdgesOfItsMatches() {
        int[] values = {0, 1, 98, 99, 100, 499, 500, 998, 999};
        for (int value : values) {
            long[] ahead = {1, 0, 1, 10, 0, 0, 0, value, 1, 16, 16, 31, value, -1, 0, 1};
            int low = value <= 99 ? 1 : 0;
            int middle = value >= 100 && value <= 499 ? 1 : 0;
            long[] matches = {low, low, 1, low - 1, middle, middle, 1, middle - 1, 1, 1, 1, 0};
            long[] behind = {17, 17, 1, Double.doubleToLongBits(1.0),
                Float.floatToIntBits(10.0f), 0, 0};
            check.same("a tail of " + value, Columns.of(value).digest(),
                    hashOfAll(ahead, matches, behind));
        }
    }

    @Says({"the bits of sizeShare (as Double.doubleToLongBits);",
        "the bits of meanBits (as Float.floatToIntBits);"})
    static void promise29_ofTheLeastShare() {
        long[] ahead = {16, 1, 0, 21, 0, 1, 0, 112, 6, 16, 16, 31};
        long[] values = new long[64];
        for (int i = 0; i < 16; i++) {
            values[4 * i] = 7;
            values[4 * i + 2] = i;
            values[4 * i + 3] = 1;
        }
        long[] behind = {1, 16, 14, 14, 7, 7, 1, 1, 1, 0, 160, 14, 14, 14, 14,
            0, 0, 0, 0, 0, 0, 0, 1, 1, 1, 0, 0, 0, 0, 1,
            16, 16, 1, 0, 0, 0, 1, -1, 16, 16, 1, 0, 21, 21, 1,
            Double.doubleToLongBits(21.0 / 160.0), Float.floatToIntBits(21.0f / 16.0f), 0, 0};
        check.same("16 like values", Columns.of(7, 7, 7, 7, 7, 7, 7, 7, 7, 7, 7, 7, 7, 7, 7, 7)
                .digest(), hashOfAll(ahead, values, behind));
    }

    @Says("in long arithmetic with overflow.")
    static void promise29_ofTheFullColumn() {
        PickedForms x = Columns.brimful();
        PickedForms y = Columns.brimful();
        check.same("twice the same", x.digest(), y.digest());
        y.change(206, 501);
        y.undo();
        y.undo();
        Columns.loaded(y, "500*15");
        check.same("the same on another way", x.digest(), y.digest());
    }

    @Says("---- what would be; nothing is changed.")
    static void promise29_changesNothing() {
        twins.looks("digest()", Columns::richWithSixStates,
                Long.toString(Columns.richWithSixStates().digest()), PickedForms::digest);
        twins.looks("digest()", Columns::brimfulWithAll,
                Long.toString(Columns.brimfulWithAll().digest()), PickedForms::digest);
    }
}
