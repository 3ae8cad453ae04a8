/** Promises 17 to 22 at their edges: value, block, size, bit, count, setting. */
final class LooksEdgesTest {

    private static final Check check = new Check("LooksEdgesTest");
    private static final Twins twins = new Twins(check);

    public static void main(String[] args) {
        Edges.run(LooksEdgesTest.class, check);
    }

    /** One block, written anew by this sample and these forms. */
    private static PickedForms by(int sample, int allowed, int... values) {
        PickedForms x = new PickedForms();
        x.set(0, sample);
        x.set(2, allowed);
        Columns.addBlock(x, values);
        return x;
    }

    private static String numbers(PickedForms x, int from, int to, int what) {
        StringBuilder all = new StringBuilder();
        for (int i = from; i <= to; i++) {
            all.append(i == from ? "" : " ").append(x.value(i, what));
        }
        return all.toString();
    }

    // ---- promise 17: value

    @Says({"Tells something of a value.", "`index`: the index of a value",
        "A value of the column is told by its index, from 0, over all blocks and the tail; in a "
            + "block by its place, from 0."})
    static void promise17_letsInTheFirstAndTheLastIndex() {
        PickedForms x = Columns.rich();
        check.same("value(0, 0)", x.value(0, 0), 1);
        check.same("value(26, 0)", x.value(26, 0), 70);
        PickedForms full = Columns.brimful();
        check.same("value(191, 0)", full.value(191, 0), 1);
        check.same("value(206, 0)", full.value(206, 0), 500);
        check.same("value(206, 2)", full.value(206, 2), 14);
    }

    @Says("Throws `IndexOutOfBoundsException` if there is no such value")
    static void promise17_refusesAnIndexThatIsNone() {
        twins.refused("value(-1, 0)", Columns::rich, Columns.INDEX, x -> x.value(-1, 0));
        twins.refused("value(27, 0)", Columns::rich, Columns.INDEX, x -> x.value(27, 0));
        twins.refused("value(207, 0)", Columns::brimful, Columns.INDEX, x -> x.value(207, 0));
        twins.refused("value(0, 0)", PickedForms::new, Columns.INDEX, x -> x.value(0, 0));
        twins.refused("the least int", Columns::rich, Columns.INDEX,
                x -> x.value(Integer.MIN_VALUE, 0));
        twins.refused("the greatest int", Columns::rich, Columns.INDEX,
                x -> x.value(Integer.MAX_VALUE, 0));
    }

    @Says("Throws `IndexOutOfBoundsException` if there is no such value")
    static void promise17_refusesTheIndexOfADroppedValue() {
        twins.refused("value(1, 0)", LooksEdgesTest::dropped, Columns.INDEX, x -> x.value(1, 0));
        check.same("value(0, 0)", dropped().value(0, 0), 7);
    }

    private static PickedForms dropped() {
        PickedForms x = Columns.block(5);
        x.write(7);
        x.drop(0);
        return x;
    }

    @Says("Throws `IllegalArgumentException` if what is not 0 to 3")
    static void promise17_refusesAWhatThatIsNone() {
        int[] none = {-1, 4, Integer.MIN_VALUE, Integer.MAX_VALUE};
        for (int what : none) {
            twins.refused("value(0, " + what + ")", Columns::rich, Columns.ARGUMENT,
                    x -> x.value(0, what));
            twins.refused("value(26, " + what + ")", Columns::rich, Columns.ARGUMENT,
                    x -> x.value(26, what));
        }
    }

    @Says("If several exceptions apply, the one that is named first in the throws clause "
        + "is thrown.")
    static void promise17_refusesTheIndexFirst() {
        twins.refused("value(-1, -1)", Columns::rich, Columns.INDEX, x -> x.value(-1, -1));
        twins.refused("value(27, 4)", Columns::rich, Columns.INDEX, x -> x.value(27, 4));
        twins.refused("value(0, 4)", PickedForms::new, Columns.INDEX, x -> x.value(0, 4));
    }

    @Says({"`what`: 0: the value; 1: its block, NONE if it is in the tail; 2: its place in the "
        + "block, or in the tail; 3: the looks that it takes to find it", "Returns the number."})
    static void promise17_atTheEdgesOfBlocks() {
        PickedForms x = Columns.rich();
        check.same("blocks", numbers(x, 0, 26, 1),
                "0 0 1 1 1 1 2 2 2 2 2 2 2 3 3 3 3 3 3 4 4 4 4 4 -1 -1 -1");
        check.same("places", numbers(x, 0, 26, 2),
                "0 1 0 1 2 3 0 1 2 3 4 5 6 0 1 2 3 4 5 0 1 2 3 4 0 1 2");
    }

    @Says("`NONE = -1`: There is nothing to return.")
    static void promise17_noBlockInTheTail() {
        check.same("NONE", PickedForms.NONE, -1);
        check.same("a tail alone", Columns.of(5).value(0, 1), -1);
        check.same("a tail behind 12 blocks", Columns.brimful().value(192, 1), -1);
        check.same("the last of 12 blocks", Columns.brimful().value(191, 1), 11);
    }

    @Says("1: its block, NONE if it is in the tail;")
    static void promise17_noBlockInTheTailBehindADroppedOne() {
        PickedForms x = Columns.rich();
        x.drop(4);
        check.same("blocks", numbers(x, 17, 21, 1), "3 3 -1 -1 -1");
        check.same("places", numbers(x, 17, 21, 2), "4 5 0 1 2");
        check.same("change() in the tail", x.change(19, 999), 0);
        x.undo();
        x.join(2);
        check.same("blocks behind join()", numbers(x, 17, 21, 1), "2 2 -1 -1 -1");
    }

    @Says("To find the value at an index takes these looks: in the tail, in a plain or a packed "
        + "block 1;")
    static void promise17_oneLookInTheTailPlainAndPacked() {
        PickedForms x = Columns.rich();
        check.same("plain", numbers(x, 0, 1, 3), "1 1");
        check.same("packed", numbers(x, 2, 5, 3), "1 1 1 1");
        check.same("tail", numbers(x, 24, 26, 3), "1 1 1");
        PickedForms full = by(16, 1, 1, 2, 3, 4, 5, 6, 7, 8, 9, 10, 11, 12, 13, 14, 15, 16);
        check.same("the last of 16", full.value(15, 3), 1);
    }

    @Says("in a block of runs as many as there are runs up to the one that the value is in;")
    static void promise17_looksInRuns() {
        PickedForms x = Columns.rich();
        check.same("two runs", numbers(x, 6, 12, 3), "1 1 1 1 1 2 2");
        PickedForms y = by(2, 5, 3, 3, 8, 3, 3, 3, 9);
        check.same("the form", y.block(0, 0), 2);
        check.same("runs of like values that come again", numbers(y, 0, 6, 3), "1 1 2 3 3 3 4");
        PickedForms most = by(2, 5, 0, 0, 1, 2, 3, 4, 5, 6, 7, 8, 9, 10, 11, 12, 13, 14);
        check.same("the most runs", most.value(15, 3), 15);
        PickedForms one = by(16, 5, 7, 7, 7, 7, 7, 7, 7, 7, 7, 7, 7, 7, 7, 7, 7, 7);
        check.same("one run of 16", one.value(15, 3), 1);
    }

    @Says("in a block of deltas the place and 1;")
    static void promise17_looksInDeltas() {
        check.same("6 values", numbers(Columns.rich(), 13, 18, 3), "1 2 3 4 5 6");
        PickedForms x = by(16, 9, 1, 2, 3, 4, 5, 6, 7, 8, 9, 10, 11, 12, 13, 14, 15, 16);
        check.same("the form", x.block(0, 0), 3);
        check.same("the first of 16", x.value(0, 3), 1);
        check.same("the last of 16", x.value(15, 3), 16);
    }

    @Says("in a listed block 2.")
    static void promise17_looksInListed() {
        check.same("5 values", numbers(Columns.rich(), 19, 23, 3), "2 2 2 2 2");
    }

    @Says("---- looks; nothing is changed.")
    static void promise17_changesNothing() {
        for (int index = 0; index <= 26; index += 13) {
            for (int what = 0; what <= 3; what++) {
                int at = index;
                int number = what;
                String due = Long.toString(Columns.richWithSixStates().value(at, number));
                twins.looks("value()", Columns::richWithSixStates, due,
                        x -> x.value(at, number));
            }
        }
    }

    // ---- promise 18: block

    @Says({"Tells something of a block.", "`block`: its number"})
    static void promise18_letsInTheFirstAndTheLastBlock() {
        PickedForms x = Columns.brimful();
        check.same("block(0, 9)", x.block(0, 9), 0);
        check.same("block(11, 9)", x.block(11, 9), 176);
        check.same("block(11, 4)", x.block(11, 4), 1);
        check.same("a block of one value", Columns.block(7).block(0, 1), 1);
    }

    @Says("Throws `IndexOutOfBoundsException` if there is no such block")
    static void promise18_refusesABlockThatIsNone() {
        twins.refused("block(-1, 0)", Columns::rich, Columns.INDEX, x -> x.block(-1, 0));
        twins.refused("block(5, 0)", Columns::rich, Columns.INDEX, x -> x.block(5, 0));
        twins.refused("block(12, 0)", Columns::brimful, Columns.INDEX, x -> x.block(12, 0));
        twins.refused("block(0, 0)", PickedForms::new, Columns.INDEX, x -> x.block(0, 0));
        twins.refused("a tail alone", () -> Columns.of(1), Columns.INDEX, x -> x.block(0, 0));
        twins.refused("the least int", Columns::rich, Columns.INDEX,
                x -> x.block(Integer.MIN_VALUE, 0));
        twins.refused("the greatest int", Columns::rich, Columns.INDEX,
                x -> x.block(Integer.MAX_VALUE, 0));
    }

    @Says("Throws `IllegalArgumentException` if what is not 0 to 9")
    static void promise18_refusesAWhatThatIsNone() {
        int[] none = {-1, 10, Integer.MIN_VALUE, Integer.MAX_VALUE};
        for (int what : none) {
            twins.refused("block(0, " + what + ")", Columns::rich, Columns.ARGUMENT,
                    x -> x.block(0, what));
        }
    }

    @Says("If several exceptions apply, the one that is named first in the throws clause "
        + "is thrown.")
    static void promise18_refusesTheBlockFirst() {
        twins.refused("block(-1, -1)", Columns::rich, Columns.INDEX, x -> x.block(-1, -1));
        twins.refused("block(5, 10)", Columns::rich, Columns.INDEX, x -> x.block(5, 10));
        twins.refused("block(0, 10)", PickedForms::new, Columns.INDEX, x -> x.block(0, 10));
    }

    private static String block(PickedForms x, int block) {
        StringBuilder all = new StringBuilder();
        for (int what = 0; what <= 9; what++) {
            all.append(what == 0 ? "" : " ").append(x.block(block, what));
        }
        return all.toString();
    }

    @Says({"`what`: 0: its form; 1: its values, how many; 2: its bits in its form; 3: its room; "
        + "4: its least value; 5: its greatest value; 6: its runs, how many; 7: its unlike "
        + "values, how many; 8: the form that would be picked if it was written anew now; 9: the "
        + "index of its first value", "Returns the number."})
    static void promise18_ofEachForm() {
        PickedForms x = Columns.rich();
        check.same("plain", block(x, 0), "0 2 20 20 1 999 2 2 0 0");
        check.same("packed", block(x, 1), "1 4 22 22 100 103 4 3 1 2");
        check.same("runs", block(x, 2), "2 7 28 28 3 900 2 2 2 6");
        check.same("deltas", block(x, 3), "3 6 29 29 5 9 3 3 3 13");
        check.same("listed", block(x, 4), "4 5 29 29 0 999 5 2 4 19");
    }

    @Says("`what`: 0: its form; 1: its values, how many; 2: its bits in its form; 3: its room; "
        + "4: its least value; 5: its greatest value; 6: its runs, how many; 7: its unlike "
        + "values, how many;")
    static void promise18_ofTheLeastAndTheGreatestBlock() {
        check.same("one value", block(Columns.block(0), 0), "0 1 10 10 0 0 1 1 0 0");
        check.same("16 like values", block(Columns.full(), 9), "1 16 14 14 9 9 1 1 1 144");
        PickedForms x = Columns.of(0, 999, 1, 998, 2, 997, 3, 996, 4, 995, 5, 994, 6, 993, 7, 992);
        check.same("16 unlike values", block(x, 0), "0 16 160 160 0 999 16 16 0 0");
    }

    @Says("3: its room;")
    static void promise18_bitsBelowTheRoom() {
        PickedForms x = Columns.block(100, 102, 100, 100);
        x.change(1, 101);
        check.same("behind a change in place", block(x, 0), "1 4 18 22 100 101 3 2 1 0");
    }

    @Says("8: the form that would be picked if it was written anew now;")
    static void promise18_theFormByTheSettingsOfNow() {
        PickedForms x = Columns.block(7, 7, 7, 999);
        check.same("at first", x.block(0, 8), 2);
        x.set(0, 3);
        check.same("by a sample of 3", x.block(0, 8), 1);
        x.set(0, 1);
        check.same("by a sample of 1", x.block(0, 8), 0);
        x.set(0, 16);
        x.set(2, 27);
        check.same("without runs", x.block(0, 8), 4);
        x.set(2, 1);
        check.same("plain alone", x.block(0, 8), 0);
        check.same("the form it has", x.block(0, 0), 2);
    }

    @Says("---- looks; nothing is changed.")
    static void promise18_changesNothing() {
        for (int what = 0; what <= 9; what++) {
            int number = what;
            String due = Long.toString(Columns.richWithSixStates().block(2, number));
            twins.looks("block(2, " + what + ")", Columns::richWithSixStates, due,
                    x -> x.block(2, number));
        }
    }

    // ---- promise 19: size

    private static String sizes(int... values) {
        PickedForms x = Columns.block(values);
        StringBuilder all = new StringBuilder();
        for (int form = 0; form <= 4; form++) {
            all.append(form == 0 ? "" : " ").append(x.size(0, form));
        }
        return all.toString();
    }

    @Says({"Tells what a block would take in a form.", "`form`: 0 to 4", "`block`: its number"})
    static void promise19_letsInTheForms0And4() {
        check.same("plain", Columns.rich().size(0, 0), 20);
        check.same("listed", Columns.rich().size(0, 4), 26);
        check.same("of the last block, plain", Columns.rich().size(4, 0), 50);
        check.same("of the last block, listed", Columns.rich().size(4, 4), 29);
        check.same("of the last of 12", Columns.brimful().size(11, 2), 14);
    }

    @Says("Throws `IllegalArgumentException` if form is out of range")
    static void promise19_refusesAFormThatIsNone() {
        int[] none = {-1, 5, Integer.MIN_VALUE, Integer.MAX_VALUE};
        for (int form : none) {
            twins.refused("size(0, " + form + ")", Columns::rich, Columns.ARGUMENT,
                    x -> x.size(0, form));
        }
    }

    @Says("Throws `IndexOutOfBoundsException` if there is no such block")
    static void promise19_refusesABlockThatIsNone() {
        twins.refused("size(-1, 0)", Columns::rich, Columns.INDEX, x -> x.size(-1, 0));
        twins.refused("size(5, 0)", Columns::rich, Columns.INDEX, x -> x.size(5, 0));
        twins.refused("size(12, 0)", Columns::brimful, Columns.INDEX, x -> x.size(12, 0));
        twins.refused("size(0, 0)", PickedForms::new, Columns.INDEX, x -> x.size(0, 0));
        twins.refused("the least int", Columns::rich, Columns.INDEX,
                x -> x.size(Integer.MIN_VALUE, 0));
        twins.refused("the greatest int", Columns::rich, Columns.INDEX,
                x -> x.size(Integer.MAX_VALUE, 0));
    }

    @Says("If several exceptions apply, the one that is named first in the throws clause "
        + "is thrown.")
    static void promise19_refusesTheBlockFirst() {
        twins.refused("size(-1, -1)", Columns::rich, Columns.INDEX, x -> x.size(-1, -1));
        twins.refused("size(5, 5)", Columns::rich, Columns.INDEX, x -> x.size(5, 5));
        twins.refused("size(0, 5)", PickedForms::new, Columns.INDEX, x -> x.size(0, 5));
    }

    @Says("Returns its bits in this form, allowed or not.")
    static void promise19_ofFormsThatAreNotAllowed() {
        PickedForms x = by(16, 1, 100, 101, 103, 102);
        check.same("packed", x.size(0, 1), 22);
        check.same("runs", x.size(0, 2), 56);
        check.same("deltas", x.size(0, 3), 23);
        check.same("listed", x.size(0, 4), 52);
    }

    @Says("A block takes 7 bits more than these (they are not told).")
    static void promise19_theSevenBitsAreNotTold() {
        PickedForms x = Columns.block(5);
        check.same("size()", x.size(0, 0), 10);
        check.same("bits", x.block(0, 2), 10);
        check.same("room", x.block(0, 3), 10);
        check.same("what the column takes", x.count(3), 17);
    }

    @Says({"A block has one of five forms.", "0, plain: each value in 10 bits."})
    static void promise19_ofOneValue() {
        check.same("0", sizes(0), "10 14 14 14 14");
        check.same("999", sizes(999), "10 14 14 14 14");
    }

    @Says("0, plain: each value in 10 bits.")
    static void promise19_of16LikeValues() {
        check.same("16 times 0", sizes(0, 0, 0, 0, 0, 0, 0, 0, 0, 0, 0, 0, 0, 0, 0, 0),
                "160 14 14 14 14");
        check.same("16 times 999", sizes(999, 999, 999, 999, 999, 999, 999, 999, 999, 999, 999,
                999, 999, 999, 999, 999), "160 14 14 14 14");
    }

    @Says({"1, packed: the least value in 10 bits; with d as the greatest value less the least "
        + "one, w(d) in 4 bits; then each value less the least one in w(d) bits.",
        "w(n) is how many bits the number n has without leading zeros, 0 for 0 (w(5) is 3):"})
    static void promise19_packedAtEachWidth() {
        int[] spans = {0, 1, 2, 3, 4, 5, 7, 8, 15, 16, 31, 32, 63, 64, 127, 128, 255, 256, 511,
            512, 999};
        int[] widths = {0, 1, 2, 2, 3, 3, 3, 4, 4, 5, 5, 6, 6, 7, 7, 8, 8, 9, 9, 10, 10};
        for (int i = 0; i < spans.length; i++) {
            check.same("0 and " + spans[i], Columns.block(0, spans[i]).size(0, 1),
                    14 + 2 * widths[i]);
            check.same("999 and " + spans[i] + " less",
                    Columns.block(999, 999 - spans[i], 999).size(0, 1), 14 + 3 * widths[i]);
        }
    }

    @Says("2, runs: for each run of like values that stand side by side (as long as can be): "
        + "the value in 10 bits, and its length less 1 in 4 bits.")
    static void promise19_from1To16Runs() {
        check.same("1 run of 16", Columns.full().size(0, 2), 14);
        PickedForms two = Columns.of(7, 7, 7, 7, 7, 7, 7, 7, 7, 7, 7, 7, 7, 7, 7, 8);
        check.same("runs of 15 and 1", two.size(0, 2), 28);
        PickedForms all = Columns.of(0, 1, 0, 1, 0, 1, 0, 1, 0, 1, 0, 1, 0, 1, 0, 1);
        check.same("16 runs", all.size(0, 2), 224);
        check.same("like values that stand apart", Columns.block(3, 8, 3).size(0, 2), 42);
    }

    @Says("A block has one of five forms.")
    static void promise19_runsEndWithTheirBlock() {
        PickedForms x = Columns.full();
        x.drop(10);
        Columns.loaded(x, "1*16");
        check.same("block 10 of 1", x.size(10, 2), 14);
        check.same("block 11 of 1", x.size(11, 2), 14);
        check.same("runs of block 11", x.block(11, 6), 1);
    }

    @Says({"3, deltas: the first value in 10 bits; with z as the greatest of the steps, w(z) in "
        + "4 bits; then each step in w(z) bits.",
        "The steps are told for each value behind the first one: with e as this value less the "
            + "one ahead of it, the step is 2 e if e is 0 or more, otherwise -2 e - 1."})
    static void promise19_deltasAtEachWidth() {
        int[] rises = {0, 1, 2, 3, 4, 7, 8, 15, 16, 31, 32, 63, 64, 127, 128, 255, 256, 511, 512,
            999};
        int[] upWidths = {0, 2, 3, 3, 4, 4, 5, 5, 6, 6, 7, 7, 8, 8, 9, 9, 10, 10, 11, 11};
        for (int i = 0; i < rises.length; i++) {
            check.same("a rise of " + rises[i], Columns.block(0, rises[i]).size(0, 3),
                    14 + upWidths[i]);
        }
        int[] falls = {1, 2, 3, 4, 5, 8, 9, 16, 17, 32, 33, 64, 65, 128, 129, 256, 257, 512, 513,
            999};
        int[] downWidths = {1, 2, 3, 3, 4, 4, 5, 5, 6, 6, 7, 7, 8, 8, 9, 9, 10, 10, 11, 11};
        for (int i = 0; i < falls.length; i++) {
            check.same("a fall of " + falls[i], Columns.block(falls[i], 0).size(0, 3),
                    14 + downWidths[i]);
        }
    }

    @Says("(With one value z is 0.)")
    static void promise19_deltasOfOneValue() {
        check.same("0", Columns.block(0).size(0, 3), 14);
        check.same("999", Columns.block(999).size(0, 3), 14);
        PickedForms x = Columns.block(999);
        Columns.addBlock(x, 0);
        check.same("the value ahead of the block makes no step", x.size(1, 3), 14);
    }

    @Says({"4, listed: how many unlike values there are, less 1, in 4 bits; the unlike values, "
        + "by rising numbers, each in 10 bits; then for each value the rank of it among these, "
        + "from 0, in w(u - 1) bits, with u as how many unlike values there are.",
        "w(n) is how many bits the number n has without leading zeros, 0 for 0 (w(5) is 3):"})
    static void promise19_listedOf1To16UnlikeValues() {
        int[] widths = {0, 1, 2, 2, 3, 3, 3, 3, 4, 4, 4, 4, 4, 4, 4, 4};
        for (int unlike = 1; unlike <= 16; unlike++) {
            PickedForms x = new PickedForms();
            for (int i = 0; i < 16; i++) {
                x.write(Math.min(i, unlike - 1));
            }
            check.same(unlike + " unlike of 16", x.size(0, 4),
                    4 + 10 * unlike + 16 * widths[unlike - 1]);
        }
    }

    @Says("---- looks; nothing is changed.")
    static void promise19_changesNothing() {
        for (int form = 0; form <= 4; form++) {
            int number = form;
            String due = Long.toString(Columns.richWithSixStates().size(3, number));
            twins.looks("size(3, " + form + ")", Columns::richWithSixStates, due,
                    x -> x.size(3, number));
        }
    }

    // ---- promise 20: bit

    @Says({"Tells a bit of a block in its form.", "`index`: 0 for the first bit",
        "`block`: its number", "Returns 0 or 1; NONE if it has not so many bits."})
    static void promise20_letsInTheFirstAndTheLastBit() {
        PickedForms x = Columns.block(513);
        check.same("bit(0, 0)", x.bit(0, 0), 1);
        check.same("bit(0, 1)", x.bit(0, 1), 0);
        check.same("bit(0, 8)", x.bit(0, 8), 0);
        check.same("bit(0, 9)", x.bit(0, 9), 1);
    }

    @Says("Returns 0 or 1; NONE if it has not so many bits.")
    static void promise20_noneBehindTheLastBit() {
        check.same("bit(0, 10) of 10", Columns.block(513).bit(0, 10), -1);
        check.same("the greatest int", Columns.block(513).bit(0, Integer.MAX_VALUE), -1);
        PickedForms x = Columns.rich();
        int[] bits = {20, 22, 28, 29, 29};
        for (int block = 0; block < 5; block++) {
            check.same("the last is there", x.bit(block, bits[block] - 1) >= 0 ? 1 : 0, 1);
            check.same("behind the last", x.bit(block, bits[block]), -1);
        }
        PickedForms plain = by(16, 1, 0, 999, 1, 998, 2, 997, 3, 996, 4, 995, 5, 994, 6, 993, 7,
                993);
        check.same("bit(0, 159) of 160", plain.bit(0, 159), 1);
        check.same("bit(0, 160) of 160", plain.bit(0, 160), -1);
    }

    @Says("Returns 0 or 1; NONE if it has not so many bits.")
    static void promise20_noneBehindTheBitsThoughTheRoomIsMore() {
        PickedForms x = Columns.block(100, 102, 100, 100);
        x.change(1, 101);
        check.same("room", x.block(0, 3), 22);
        check.same("bit(0, 17) of 18", x.bit(0, 17), 0);
        check.same("bit(0, 18) of 18", x.bit(0, 18), -1);
    }

    @Says("Throws `IllegalArgumentException` if index is below 0")
    static void promise20_refusesTheIndexMinus1() {
        twins.refused("bit(0, -1)", Columns::rich, Columns.ARGUMENT, x -> x.bit(0, -1));
        twins.refused("bit(4, -1)", Columns::rich, Columns.ARGUMENT, x -> x.bit(4, -1));
        twins.refused("the least int", Columns::rich, Columns.ARGUMENT,
                x -> x.bit(0, Integer.MIN_VALUE));
    }

    @Says("Throws `IndexOutOfBoundsException` if there is no such block")
    static void promise20_refusesABlockThatIsNone() {
        twins.refused("bit(-1, 0)", Columns::rich, Columns.INDEX, x -> x.bit(-1, 0));
        twins.refused("bit(5, 0)", Columns::rich, Columns.INDEX, x -> x.bit(5, 0));
        twins.refused("bit(12, 0)", Columns::brimful, Columns.INDEX, x -> x.bit(12, 0));
        twins.refused("bit(0, 0)", PickedForms::new, Columns.INDEX, x -> x.bit(0, 0));
        twins.refused("the least int", Columns::rich, Columns.INDEX,
                x -> x.bit(Integer.MIN_VALUE, 0));
        twins.refused("the greatest int", Columns::rich, Columns.INDEX,
                x -> x.bit(Integer.MAX_VALUE, 0));
    }

    @Says("If several exceptions apply, the one that is named first in the throws clause "
        + "is thrown.")
    static void promise20_refusesTheBlockFirst() {
        twins.refused("bit(-1, -1)", Columns::rich, Columns.INDEX, x -> x.bit(-1, -1));
        twins.refused("bit(5, -1)", Columns::rich, Columns.INDEX, x -> x.bit(5, -1));
        twins.refused("bit(0, -1)", PickedForms::new, Columns.INDEX, x -> x.bit(0, -1));
    }

    private static void bits(String form, PickedForms x, String due) {
        check.same(form, Columns.bits(x, 0), due);
        check.same(form + ", how many", x.block(0, 2), due.length());
    }

    @Says({"Its bits are these, one field behind the other, each field with its highest bit "
        + "first;", "0, plain: each value in 10 bits."})
    static void promise20_plainBits() {
        bits("0", Columns.block(0), "0000000000");
        bits("1", Columns.block(1), "0000000001");
        bits("999", Columns.block(999), "1111100111");
        bits("512 and 1", by(16, 1, 512, 1), "1000000000" + "0000000001");
    }

    @Says("1, packed: the least value in 10 bits; with d as the greatest value less the least "
        + "one, w(d) in 4 bits; then each value less the least one in w(d) bits.")
    static void promise20_packedBits() {
        bits("width 0", by(16, 3, 999, 999), "1111100111" + "0000");
        bits("width 1", by(16, 3, 8, 9), "0000001000" + "0001" + "01");
        bits("width 2", by(16, 3, 103, 100, 101), "0001100100" + "0010" + "110001");
        bits("width 10", by(2, 3, 0, 0, 999),
                "0000000000" + "1010" + "0000000000" + "0000000000" + "1111100111");
        bits("width 9", by(2, 3, 512, 512, 1), "0000000001" + "1001" + "111111111" + "111111111"
                + "000000000");
    }

    @Says("2, runs: for each run of like values that stand side by side (as long as can be): "
        + "the value in 10 bits, and its length less 1 in 4 bits.")
    static void promise20_runsBits() {
        bits("a run of 16", by(16, 5, 7, 7, 7, 7, 7, 7, 7, 7, 7, 7, 7, 7, 7, 7, 7, 7),
                "0000000111" + "1111");
        bits("a run of 1 at the end", by(16, 5, 3, 3, 3, 900),
                "0000000011" + "0010" + "1110000100" + "0000");
        bits("a run of 1 at the start", by(16, 5, 900, 3, 3, 3),
                "1110000100" + "0000" + "0000000011" + "0010");
        bits("like runs apart", by(3, 5, 3, 3, 3, 900, 3),
                "0000000011" + "0010" + "1110000100" + "0000" + "0000000011" + "0000");
    }

    @Says("2, runs: for each run of like values that stand side by side (as long as can be): "
        + "the value in 10 bits, and its length less 1 in 4 bits.")
    static void promise20_runsEndWithTheirBlock() {
        PickedForms x = by(16, 5, 3, 3, 3, 900);
        Columns.addBlock(x, 900, 900, 900, 3, 3, 3);
        x.write(3);
        bits("before a block of the same value", x,
                "0000000011" + "0010" + "1110000100" + "0000");
        check.same("before a tail of the same value", Columns.bits(x, 1),
                "1110000100" + "0010" + "0000000011" + "0010");
        x.undo();
        check.same("at the end", Columns.bits(x, 1),
                "1110000100" + "0010" + "0000000011" + "0010");
    }

    @Says({"3, deltas: the first value in 10 bits; with z as the greatest of the steps, w(z) in "
        + "4 bits; then each step in w(z) bits.",
        "with e as this value less the one ahead of it, the step is 2 e if e is 0 or more, "
            + "otherwise -2 e - 1."})
    static void promise20_deltasBits() {
        bits("width 0", by(16, 9, 999, 999), "1111100111" + "0000");
        bits("width 1", by(16, 9, 9, 8, 8), "0000001001" + "0001" + "10");
        bits("width 2", by(16, 9, 9, 8, 9, 9), "0000001001" + "0010" + "01" + "10" + "00");
        bits("width 11", by(2, 9, 0, 0, 999, 0),
                "0000000000" + "1011" + "00000000000" + "11111001110" + "11111001101");
    }

    @Says("4, listed: how many unlike values there are, less 1, in 4 bits; the unlike values, "
        + "by rising numbers, each in 10 bits; then for each value the rank of it among these, "
        + "from 0, in w(u - 1) bits, with u as how many unlike values there are.")
    static void promise20_listedBits() {
        bits("1 unlike", by(16, 17, 8, 8), "0000" + "0000001000");
        bits("2 unlike, the greatest first", by(16, 17, 999, 999, 999, 999, 0),
                "0001" + "0000000000" + "1111100111" + "11110");
        bits("3 unlike", by(2, 17, 999, 999, 0, 512),
                "0010" + "0000000000" + "1000000000" + "1111100111" + "10" + "10" + "00" + "01");
        String ranks = "";
        String listed = "1110";
        for (int i = 0; i < 15; i++) {
            listed += "000000" + nibble(i);
            ranks += nibble(i);
        }
        bits("15 unlike", by(2, 17, 0, 0, 1, 2, 3, 4, 5, 6, 7, 8, 9, 10, 11, 12, 13, 14),
                listed + "0000" + ranks);
    }

    private static String nibble(int number) {
        return "" + (number >> 3 & 1) + (number >> 2 & 1) + (number >> 1 & 1) + (number & 1);
    }

    @Says("---- looks; nothing is changed.")
    static void promise20_changesNothing() {
        twins.looks("bit(0, 0)", Columns::richWithSixStates, "0", x -> x.bit(0, 0));
        twins.looks("bit(0, 19)", Columns::richWithSixStates, "1", x -> x.bit(0, 19));
        twins.looks("bit(0, 20)", Columns::richWithSixStates, "-1", x -> x.bit(0, 20));
    }

    // ---- promise 21: count

    private static String counts(PickedForms x) {
        StringBuilder all = new StringBuilder();
        for (int what = 0; what <= 8; what++) {
            all.append(what == 0 ? "" : " ").append(x.count(what));
        }
        return all.toString();
    }

    @Says({"Returns a number.", "Throws `IllegalArgumentException` if what is not 0 to 8"})
    static void promise21_refusesAWhatThatIsNone() {
        int[] none = {-1, 9, Integer.MIN_VALUE, Integer.MAX_VALUE};
        for (int what : none) {
            twins.refused("count(" + what + ")", PickedForms::new, Columns.ARGUMENT,
                    x -> x.count(what));
            twins.refused("count(" + what + ")", Columns::richWithSixStates, Columns.ARGUMENT,
                    x -> x.count(what));
        }
    }

    @Says({"`what`: 0: values; 1: blocks; 2: values of the tail;", "Returns the number."})
    static void promise21_ofTheEmptyAndTheFullColumn() {
        check.same("a new object", counts(new PickedForms()), "0 0 0 0 0 0 0 0 0");
        check.same("a full column", counts(Columns.brimful()), "207 12 15 402 0 12 0 8236 2");
    }

    @Says("3: the rooms of all blocks together, with 7 bits for each block, and 10 bits for "
        + "each value of the tail;")
    static void promise21_whatTheColumnTakes() {
        check.same("a tail of 1", Columns.of(5).count(3), 10);
        check.same("a block of 1", Columns.block(5).count(3), 17);
        check.same("12 blocks of 1", Columns.twelveShort().count(3), 204);
        check.same("all forms and a tail", Columns.rich().count(3),
                20 + 22 + 28 + 29 + 29 + 5 * 7 + 3 * 10);
    }

    @Says("3: the rooms of all blocks together, with 7 bits for each block, and 10 bits for "
        + "each value of the tail;")
    static void promise21_whatTheColumnTakesIsByRoomsNotByBits() {
        PickedForms x = Columns.block(100, 102, 100, 100);
        x.change(1, 101);
        check.same("count(3)", x.count(3), 29);
        check.same("count(6)", x.count(6), 4);
    }

    @Says({"4: values changed in place so far;", "5: blocks written anew so far (each block each "
        + "time: by closing and by joining one, by splitting two, by anew(), and by change());"})
    static void promise21_countsSoFar() {
        PickedForms x = Columns.of(3, 1);
        check.same("a tail", counts(x), "2 0 2 20 0 0 0 4 2");
        x.close();
        check.same("closing is one", counts(x), "2 1 0 23 0 1 0 4 3");
        x.anew(0);
        check.same("anew() is one", counts(x), "2 1 0 23 0 2 0 4 4");
        x.change(1, 2);
        check.same("a change in place", counts(x), "2 1 0 23 1 2 1 5 5");
        x.change(1, 0);
        check.same("a change anew is one", counts(x), "2 1 0 24 1 3 0 3 6");
        x.split(0, 1);
        check.same("splitting is two", counts(x), "2 2 0 34 1 5 0 3 6");
        x.join(0);
        check.same("joining is one", counts(x), "2 1 0 24 1 6 0 3 6");
        x.drop(0);
        check.same("dropping is none", counts(x), "0 0 0 0 1 6 0 0 6");
        Columns.writeAll(x, 9, 9);
        x.set(1, 2);
        x.write(9);
        check.same("a write that closes is one", counts(x), "3 1 0 21 1 7 0 27 6");
        Columns.loaded(x, "9*4");
        check.same("a load that closes twice is two", counts(x), "7 3 0 63 1 9 0 63 6");
    }

    @Says("6: bits of rooms that are not used now (rooms less bits, of all blocks);")
    static void promise21_bitsThatAreNotUsed() {
        PickedForms x = Columns.block(100, 102, 100, 100);
        Columns.addBlock(x, 3, 3, 3, 3, 3, 900, 900);
        check.same("none", x.count(6), 0);
        x.change(1, 101);
        check.same("4 of block 0", x.count(6), 4);
        x.change(9, 3);
        x.change(10, 3);
        check.same("and 14 of block 1", x.count(6), 18);
        x.anew(1);
        check.same("block 1 is written anew", x.count(6), 4);
    }

    @Says("7: the sum of all values;")
    static void promise21_theGreatestSum() {
        PickedForms x = new PickedForms();
        Columns.loaded(x, "999*16,999*16,999*16,999*16,999*16,999*16,999*16");
        Columns.loaded(x, "999*16,999*16,999*16,999*16,999*16,999*15");
        check.same("count(0)", x.count(0), 207);
        check.same("count(7)", x.count(7), 206793);
    }

    @Says("8: saved states")
    static void promise21_savedStatesAreAtMost6() {
        PickedForms x = new PickedForms();
        for (int i = 1; i <= 8; i++) {
            x.write(i);
            check.same("count(8)", x.count(8), Math.min(i, 6));
        }
        x.undo();
        check.same("count(8) behind undo()", x.count(8), 5);
    }

    @Says("---- looks; nothing is changed.")
    static void promise21_changesNothing() {
        String[] due = counts(Columns.richWithSixStates()).split(" ");
        for (int what = 0; what <= 8; what++) {
            int number = what;
            twins.looks("count(" + what + ")", Columns::richWithSixStates, due[what],
                    x -> x.count(number));
        }
    }

    // ---- promise 22: setting

    @Says({"Returns a setting.", "`setting`: 0 to 2", "Returns its value."})
    static void promise22_letsIn0And2() {
        PickedForms x = new PickedForms();
        x.set(0, 1);
        x.set(1, 2);
        x.set(2, 3);
        check.same("setting(0)", x.setting(0), 1);
        check.same("setting(1)", x.setting(1), 2);
        check.same("setting(2)", x.setting(2), 3);
    }

    @Says("Throws `IndexOutOfBoundsException` if there is no such setting")
    static void promise22_refusesASettingThatIsNone() {
        int[] none = {-1, 3, Integer.MIN_VALUE, Integer.MAX_VALUE};
        for (int setting : none) {
            twins.refused("setting(" + setting + ")", Columns::richWithSixStates, Columns.INDEX,
                    x -> x.setting(setting));
        }
    }

    @Says("---- looks; nothing is changed.")
    static void promise22_changesNothing() {
        twins.looks("setting(0)", Columns::richWithSixStates, "9", x -> x.setting(0));
        twins.looks("setting(2)", Columns::richWithSixStates, "31", x -> x.setting(2));
    }
}
