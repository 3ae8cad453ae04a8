/** Promises 5 to 9 at their edges: anew, join, split, drop, set. */
final class BlocksEdgesTest {

    private static final Check check = new Check("BlocksEdgesTest");
    private static final Twins twins = new Twins(check);

    public static void main(String[] args) {
        Edges.run(BlocksEdgesTest.class, check);
    }

    // ---- promise 5: anew

    /** What stands behind anew(0) of these values, by this sample and these forms. */
    private static String anewBy(int sample, int allowed, int... values) {
        PickedForms x = Columns.block(values);
        x.set(0, sample);
        x.set(2, allowed);
        x.anew(0);
        return "form " + x.block(0, 0) + " room " + x.block(0, 3);
    }

    @Says("`block`: its number")
    static void promise05_letsInTheFirstAndTheLastBlock() {
        PickedForms x = Columns.twelveShort();
        check.same("anew(0)", x.anew(0), 0);
        check.same("anew(11)", x.anew(11), 0);
        check.same("blocks written anew", x.count(5), 14);
    }

    @Says("Throws `IndexOutOfBoundsException` if there is no such block")
    static void promise05_refusesTheBlockMinus1() {
        twins.refused("anew(-1)", Columns::richWithSixStates, Columns.INDEX, x -> x.anew(-1));
        twins.refused("the least int", Columns::rich, Columns.INDEX,
                x -> x.anew(Integer.MIN_VALUE));
    }

    @Says("Throws `IndexOutOfBoundsException` if there is no such block")
    static void promise05_refusesTheBlockBehindTheLast() {
        twins.refused("anew(5)", Columns::richWithSixStates, Columns.INDEX, x -> x.anew(5));
        twins.refused("anew(12)", Columns::brimfulWithAll, Columns.INDEX, x -> x.anew(12));
        twins.refused("the greatest int", Columns::rich, Columns.INDEX,
                x -> x.anew(Integer.MAX_VALUE));
    }

    @Says("Throws `IndexOutOfBoundsException` if there is no such block")
    static void promise05_refusesTheBlock0WithoutBlocks() {
        twins.refused("no values", PickedForms::new, Columns.INDEX, x -> x.anew(0));
        twins.refused("a tail alone", () -> Columns.of(1, 2), Columns.INDEX, x -> x.anew(0));
    }

    @Says("Returns how many bits less its room is then (below 0 if it is more).")
    static void promise05_returns0ForTheSameRoom() {
        check.same("anew() of a block of one value", Columns.block(7).anew(0), 0);
        check.same("anew() of all forms", Columns.rich().anew(4), 0);
    }

    @Says("Returns how many bits less its room is then (below 0 if it is more).")
    static void promise05_returnsMoreThan0ForLessRoom() {
        PickedForms x = Columns.block(1, 999);
        x.change(0, 999);
        check.same("plain of 20 to packed of 14", x.anew(0), 6);
        check.same("form", x.block(0, 0), 1);
        check.same("room", x.block(0, 3), 14);
    }

    @Says("Returns how many bits less its room is then (below 0 if it is more).")
    static void promise05_returnsLessThan0ForMoreRoom() {
        PickedForms x = Columns.block(4, 4);
        x.set(0, 1);
        check.same("packed of 14 to plain of 20", x.anew(0), -6);
        check.same("room", x.block(0, 3), 20);
    }

    @Says("When a block is written anew, its form is picked by a sample: its first setting 0 "
        + "values (all, if it has not so many).")
    static void promise05_aSampleOf1IsPlain() {
        check.same("sample of 1", anewBy(1, 31, 4, 4, 4), "form 0 room 30");
        check.same("sample of 2", anewBy(2, 31, 4, 4, 4), "form 1 room 14");
    }

    @Says("When a block is written anew, its form is picked by a sample: its first setting 0 "
        + "values (all, if it has not so many).")
    static void promise05_aSampleOfOneValueLessThanAll() {
        check.same("3 of 4", anewBy(3, 31, 7, 7, 7, 999), "form 1 room 54");
    }

    @Says("When a block is written anew, its form is picked by a sample: its first setting 0 "
        + "values (all, if it has not so many).")
    static void promise05_aSampleOfJustAllValues() {
        check.same("4 of 4", anewBy(4, 31, 7, 7, 7, 999), "form 2 room 28");
        check.same("16 of 16", anewBy(16, 31, 7, 7, 7, 7, 7, 7, 7, 7, 7, 7, 7, 7, 7, 7, 7, 999),
                "form 2 room 28");
        check.same("15 of 16", anewBy(15, 31, 7, 7, 7, 7, 7, 7, 7, 7, 7, 7, 7, 7, 7, 7, 7, 999),
                "form 1 room 174");
    }

    @Says("When a block is written anew, its form is picked by a sample: its first setting 0 "
        + "values (all, if it has not so many).")
    static void promise05_aSampleOfMoreThanItHas() {
        check.same("5 of 4", anewBy(5, 31, 7, 7, 7, 999), "form 2 room 28");
        check.same("16 of 4", anewBy(16, 31, 7, 7, 7, 999), "form 2 room 28");
        PickedForms x = Columns.block(7, 7);
        Columns.addBlock(x, 999, 0, 500);
        x.anew(0);
        check.same("the next block is not in the sample", x.block(0, 0), 1);
    }

    @Says("The form is that of the allowed ones (setting 2, a mask with the bit f for the "
        + "form f) in which the sample alone would have the fewest bits, of several the lowest.")
    static void promise05_ofSeveralFormsTheLowest() {
        check.same("plain and packed of 20", anewBy(16, 3, 0, 4), "form 0 room 20");
        check.same("packed of 18", anewBy(16, 3, 0, 3), "form 1 room 18");
        check.same("packed and deltas of 16", anewBy(16, 31, 0, 1), "form 1 room 16");
        check.same("deltas of 15", anewBy(16, 31, 1, 0), "form 3 room 15");
        check.same("runs and listed of 28", anewBy(16, 31, 7, 7, 7, 999), "form 2 room 28");
        check.same("all but plain of 14", anewBy(16, 31, 8, 8, 8), "form 1 room 14");
    }

    @Says("The form is that of the allowed ones (setting 2, a mask with the bit f for the "
        + "form f) in which the sample alone would have the fewest bits, of several the lowest.")
    static void promise05_ofTheAllowedFormsAlone() {
        check.same("plain alone", anewBy(16, 1, 8, 8, 8), "form 0 room 30");
        check.same("packed too", anewBy(16, 3, 8, 8, 8), "form 1 room 14");
        check.same("runs too", anewBy(16, 5, 8, 8, 8), "form 2 room 14");
        check.same("deltas too", anewBy(16, 9, 8, 8, 8), "form 3 room 14");
        check.same("listed too", anewBy(16, 17, 8, 8, 8), "form 4 room 14");
        check.same("all but packed", anewBy(16, 29, 8, 8, 8), "form 2 room 14");
        check.same("deltas and listed", anewBy(16, 25, 8, 8, 8), "form 3 room 14");
    }

    @Says("The room of the block is the number of its bits then.")
    static void promise05_theRoomIsOfAllValuesNotOfTheSample() {
        check.same("packed by a sample of 2", anewBy(2, 3, 0, 0, 999), "form 1 room 44");
        check.same("deltas by a sample of 2", anewBy(2, 9, 0, 0, 999), "form 3 room 36");
        check.same("listed by a sample of 2", anewBy(2, 17, 0, 0, 999), "form 4 room 27");
        check.same("runs by a sample of 2", anewBy(2, 5, 0, 0, 999, 0, 999), "form 2 room 56");
    }

    @Says("Writes a block anew, as it is.")
    static void promise05_theValuesStay() {
        PickedForms x = Columns.rich();
        String before = Columns.values(x) + " " + Columns.lengths(x);
        for (int block = 0; block < 5; block++) {
            x.anew(block);
        }
        check.same("values and lengths", Columns.values(x) + " " + Columns.lengths(x), before);
    }

    @Says({"Undoable.", "(also if it changes nothing)"})
    static void promise05_isUndone() {
        for (int block = 0; block < 5; block++) {
            int number = block;
            twins.undoable("anew(" + block + ")", Columns::rich, x -> x.anew(number));
        }
        PickedForms x = Columns.rich();
        x.anew(0);
        check.same("blocks written anew", x.count(5), 6);
        x.undo();
        check.same("blocks written anew, undone", x.count(5), 5);
    }

    // ---- promise 6: join

    @Says("`block`: its number")
    static void promise06_letsInTheFirstBlock() {
        PickedForms x = Columns.twelveShort();
        check.same("join(0) of 0 and 10: deltas of 19", x.join(0), 3);
        check.same("lengths", Columns.lengths(x), "2 1 1 1 1 1 1 1 1 1 1 +0");
        check.same("the next one", x.block(1, 4), 20);
    }

    @Says("Throws `IndexOutOfBoundsException` if there is no such block, or it is the last one")
    static void promise06_letsInTheLastButOne() {
        PickedForms x = Columns.twelveShort();
        check.same("join(10) of 100 and 110: deltas of 19", x.join(10), 3);
        check.same("lengths", Columns.lengths(x), "1 1 1 1 1 1 1 1 1 1 2 +0");
        check.same("values", Columns.values(x), "0,10,20,30,40,50,60,70,80,90,100,110");
    }

    @Says("Throws `IndexOutOfBoundsException` if there is no such block, or it is the last one")
    static void promise06_refusesTheLastBlock() {
        twins.refused("the last of 12", Columns::twelveShort, Columns.INDEX, x -> x.join(11));
        twins.refused("the last of 5, with a tail", Columns::richWithSixStates, Columns.INDEX,
                x -> x.join(4));
        twins.refused("one block alone", () -> Columns.block(1), Columns.INDEX, x -> x.join(0));
    }

    @Says("Throws `IndexOutOfBoundsException` if there is no such block, or it is the last one")
    static void promise06_refusesABlockThatIsNone() {
        twins.refused("join(-1)", Columns::richWithSixStates, Columns.INDEX, x -> x.join(-1));
        twins.refused("join(5) of 5", Columns::richWithSixStates, Columns.INDEX, x -> x.join(5));
        twins.refused("join(12) of 12", Columns::twelveShort, Columns.INDEX, x -> x.join(12));
        twins.refused("no values", PickedForms::new, Columns.INDEX, x -> x.join(0));
        twins.refused("no values", PickedForms::new, Columns.INDEX, x -> x.join(-1));
        twins.refused("a tail alone", () -> Columns.of(1, 2), Columns.INDEX, x -> x.join(0));
        twins.refused("the least int", Columns::rich, Columns.INDEX,
                x -> x.join(Integer.MIN_VALUE));
        twins.refused("the greatest int", Columns::rich, Columns.INDEX,
                x -> x.join(Integer.MAX_VALUE));
    }

    private static PickedForms two(int first, int second) {
        PickedForms x = new PickedForms();
        for (int i = 0; i < first; i++) {
            x.write(1);
        }
        if (x.count(2) > 0) {
            x.close();
        }
        for (int i = 0; i < second; i++) {
            x.write(2);
        }
        if (x.count(2) > 0) {
            x.close();
        }
        return x;
    }

    @Says("Throws `IllegalStateException` if both have more than 16 values together")
    static void promise06_letsIn16Together() {
        int[] firsts = {1, 8, 15};
        for (int first : firsts) {
            PickedForms x = two(first, 16 - first);
            check.same("join() of " + first + " and " + (16 - first), x.join(0), 2);
            check.same("lengths", Columns.lengths(x), "16 +0");
            check.same("room", x.block(0, 3), 28);
        }
    }

    @Says("Throws `IllegalStateException` if both have more than 16 values together")
    static void promise06_refuses17Together() {
        twins.refused("1 and 16", () -> two(1, 16), Columns.STATE, x -> x.join(0));
        twins.refused("8 and 9", () -> two(8, 9), Columns.STATE, x -> x.join(0));
        twins.refused("16 and 1", () -> two(16, 1), Columns.STATE, x -> x.join(0));
    }

    @Says("Throws `IllegalStateException` if both have more than 16 values together")
    static void promise06_refuses32Together() {
        twins.refused("16 and 16", Columns::brimfulWithAll, Columns.STATE, x -> x.join(0));
        twins.refused("16 and 16", Columns::brimfulWithAll, Columns.STATE, x -> x.join(10));
    }

    @Says("If several exceptions apply, the one that is named first in the throws clause "
        + "is thrown.")
    static void promise06_refusesTheLastOfFullBlocksByItsIndex() {
        twins.refused("join(11)", Columns::brimfulWithAll, Columns.INDEX, x -> x.join(11));
    }

    @Says("Joins a block with the next one.")
    static void promise06_theTailIsNoNextOne() {
        PickedForms x = Columns.block(1);
        Columns.addBlock(x, 2);
        x.write(3);
        check.same("join(0)", x.join(0), 1);
        check.same("lengths", Columns.lengths(x), "2 +1");
        twins.refused("join(0) of a block and a tail", BlocksEdgesTest::withTail, Columns.INDEX,
                y -> y.join(0));
    }

    private static PickedForms withTail() {
        PickedForms x = Columns.block(1);
        x.write(3);
        return x;
    }

    /** Each block's form, values and room. */
    private static String rows(PickedForms x) {
        StringBuilder all = new StringBuilder();
        for (int block = 0; block < x.count(1); block++) {
            all.append(block == 0 ? "" : " ").append(x.block(block, 0)).append('/')
                    .append(x.block(block, 1)).append('/').append(x.block(block, 3));
        }
        return all.toString();
    }

    @Says("It has at most 12 blocks, numbered from 0 in their order")
    static void promise06_theBlocksBehindMoveUp() {
        PickedForms x = Columns.rich();
        check.same("before", rows(x), "0/2/20 1/4/22 2/7/28 3/6/29 4/5/29");
        x.join(0);
        check.same("join(0) of 2 and 4", rows(x), "0/6/60 2/7/28 3/6/29 4/5/29");
        x.undo();
        x.join(3);
        check.same("join(3) of the last two", rows(x), "0/2/20 1/4/22 2/7/28 4/11/87");
        x.undo();
        x.join(1);
        check.same("join(1) in the middle", rows(x), "0/2/20 2/11/84 3/6/29 4/5/29");
        check.same("values", Columns.values(x), Columns.values(Columns.rich()));
    }

    @Says({"Returns the form of the new block.",
        "New blocks, and blocks that are joined or split, are written anew."})
    static void promise06_returnsEachForm() {
        check.same("plain", joined(new int[] {1}, new int[] {999}), 0);
        check.same("packed", joined(new int[] {100, 101}, new int[] {103, 102}), 1);
        check.same("runs", joined(new int[] {3, 3, 3, 3, 3}, new int[] {900, 900}), 2);
        check.same("deltas", joined(new int[] {5, 5, 5}, new int[] {7, 7, 9}), 3);
        check.same("listed", joined(new int[] {0, 999, 0}, new int[] {999, 0}), 4);
    }

    private static int joined(int[] first, int[] second) {
        PickedForms x = Columns.block(first);
        Columns.addBlock(x, second);
        return x.join(0);
    }

    @Says("New blocks, and blocks that are joined or split, are written anew.")
    static void promise06_isWrittenAnewByTheSettingsOfNow() {
        PickedForms x = two(3, 3);
        x.set(0, 3);
        check.same("a sample of the first three", x.join(0), 1);
        check.same("room", x.block(0, 3), 20);
        PickedForms y = two(3, 3);
        y.set(2, 1);
        check.same("plain alone", y.join(0), 0);
        check.same("room", y.block(0, 3), 60);
        check.same("blocks written anew", y.count(5), 3);
    }

    @Says("Undoable.")
    static void promise06_isUndone() {
        for (int block = 0; block < 4; block++) {
            int number = block;
            twins.undoable("join(" + block + ")", Columns::rich, x -> x.join(number));
        }
    }

    // ---- promise 7: split

    private static PickedForms sixteen() {
        PickedForms x = Columns.of(1, 2, 3, 4, 5, 6, 7, 8, 9, 10, 11, 12, 13, 14, 15, 16);
        Columns.settle(x);
        return x;
    }

    @Says({"Splits a block: the values from a place on become a block of their own.",
        "`place`: 1 to its values less 1"})
    static void promise07_letsInThePlace1() {
        PickedForms x = sixteen();
        x.split(0, 1);
        check.same("lengths", Columns.lengths(x), "1 15 +0");
        check.same("the first of the second", x.value(1, 0), 2);
        check.same("its place", x.value(1, 2), 0);
    }

    @Says("`place`: 1 to its values less 1")
    static void promise07_letsInThePlaceOfTheLastValue() {
        PickedForms x = sixteen();
        x.split(0, 15);
        check.same("lengths", Columns.lengths(x), "15 1 +0");
        check.same("the last block", x.block(1, 4), 16);
    }

    @Says("Throws `IndexOutOfBoundsException` if there is no such block or place")
    static void promise07_refusesThePlace0() {
        twins.refused("split(0, 0)", BlocksEdgesTest::sixteen, Columns.INDEX, x -> x.split(0, 0));
        twins.refused("split(0, -1)", Columns::richWithSixStates, Columns.INDEX,
                x -> x.split(0, -1));
        twins.refused("the least int", Columns::rich, Columns.INDEX,
                x -> x.split(0, Integer.MIN_VALUE));
    }

    @Says("Throws `IndexOutOfBoundsException` if there is no such block or place")
    static void promise07_refusesThePlaceBehindTheLastValue() {
        twins.refused("split(0, 16)", BlocksEdgesTest::sixteen, Columns.INDEX,
                x -> x.split(0, 16));
        twins.refused("split(0, 2) of 2", Columns::richWithSixStates, Columns.INDEX,
                x -> x.split(0, 2));
        twins.refused("the greatest int", Columns::rich, Columns.INDEX,
                x -> x.split(0, Integer.MAX_VALUE));
    }

    @Says("Throws `IndexOutOfBoundsException` if there is no such block or place")
    static void promise07_aBlockOfOneValueHasNoPlace() {
        twins.refused("split(0, 0)", () -> Columns.block(5), Columns.INDEX, x -> x.split(0, 0));
        twins.refused("split(0, 1)", () -> Columns.block(5), Columns.INDEX, x -> x.split(0, 1));
    }

    @Says("each with 1 to 16 values")
    static void promise07_splitsABlockOfTwo() {
        PickedForms x = Columns.block(5, 6);
        x.split(0, 1);
        check.same("lengths", Columns.lengths(x), "1 1 +0");
        check.same("values", Columns.values(x), "5,6");
    }

    @Says("Throws `IndexOutOfBoundsException` if there is no such block or place")
    static void promise07_refusesABlockThatIsNone() {
        twins.refused("split(-1, 1)", Columns::richWithSixStates, Columns.INDEX,
                x -> x.split(-1, 1));
        twins.refused("split(5, 1) of 5", Columns::richWithSixStates, Columns.INDEX,
                x -> x.split(5, 1));
        twins.refused("no values", PickedForms::new, Columns.INDEX, x -> x.split(0, 1));
        twins.refused("a tail alone", () -> Columns.of(1, 2), Columns.INDEX,
                x -> x.split(0, 1));
        twins.refused("the least int", Columns::rich, Columns.INDEX,
                x -> x.split(Integer.MIN_VALUE, 1));
        twins.refused("the greatest int", Columns::rich, Columns.INDEX,
                x -> x.split(Integer.MAX_VALUE, 1));
    }

    @Says("`block`: its number")
    static void promise07_letsInTheLastBlock() {
        PickedForms x = Columns.rich();
        x.split(4, 2);
        check.same("lengths", Columns.lengths(x), "2 4 7 6 2 3 +3");
        check.same("values", Columns.values(x), "1,999,100,102,103,102,3,3,3,3,3,900,900,"
                + "5,5,5,7,7,9,0,999,0,999,0,50,60,70");
    }

    private static PickedForms elevenAndOneOfTwo() {
        PickedForms x = Columns.twelveShort();
        x.join(4);
        return x;
    }

    @Says("Throws `IllegalStateException` if there are 12 blocks")
    static void promise07_letsInTheTwelfthBlock() {
        PickedForms x = elevenAndOneOfTwo();
        check.same("deltas of 19 to twice 10, and 7", x.split(4, 1), -8);
        check.same("lengths", Columns.lengths(x), "1 1 1 1 1 1 1 1 1 1 1 1 +0");
        check.same("values", Columns.values(x), "0,10,20,30,40,50,60,70,80,90,100,110");
    }

    private static PickedForms twelveAndOneOfTwo() {
        PickedForms x = elevenAndOneOfTwo();
        x.write(5);
        x.close();
        return x;
    }

    @Says("Throws `IllegalStateException` if there are 12 blocks")
    static void promise07_refusesTheThirteenthBlock() {
        twins.refused("split(4, 1)", BlocksEdgesTest::twelveAndOneOfTwo, Columns.STATE,
                x -> x.split(4, 1));
        twins.refused("split(0, 8)", Columns::brimfulWithAll, Columns.STATE, x -> x.split(0, 8));
        twins.refused("split(11, 1)", Columns::brimfulWithAll, Columns.STATE,
                x -> x.split(11, 1));
        twins.refused("split(11, 15)", Columns::brimfulWithAll, Columns.STATE,
                x -> x.split(11, 15));
    }

    @Says("If several exceptions apply, the one that is named first in the throws clause "
        + "is thrown.")
    static void promise07_refusesBlockAndPlaceFirst() {
        twins.refused("split(-1, 1)", Columns::brimfulWithAll, Columns.INDEX,
                x -> x.split(-1, 1));
        twins.refused("split(12, 1)", Columns::brimfulWithAll, Columns.INDEX,
                x -> x.split(12, 1));
        twins.refused("split(0, 0)", Columns::brimfulWithAll, Columns.INDEX, x -> x.split(0, 0));
        twins.refused("split(0, 16)", Columns::brimfulWithAll, Columns.INDEX,
                x -> x.split(0, 16));
    }

    @Says("Returns how many bits less the rooms of both are together than the room was "
        + "(below 0 if they are more); the 7 bits of a block count.")
    static void promise07_returnsLessThan0() {
        check.same("plain of 20 to twice 10, and 7", Columns.block(1, 999).split(0, 1), -7);
        check.same("packed of 14 to twice 14, and 7", Columns.block(8, 8, 8, 8).split(0, 2), -21);
    }

    @Says("Returns how many bits less the rooms of both are together than the room was "
        + "(below 0 if they are more); the 7 bits of a block count.")
    static void promise07_returns0() {
        PickedForms x = new PickedForms();
        x.set(2, 3);
        Columns.addBlock(x, 0, 0, 0, 4, 4, 4, 4);
        check.same("packed of 35 to twice 14, and 7", x.split(0, 3), 0);
    }

    @Says("Returns how many bits less the rooms of both are together than the room was "
        + "(below 0 if they are more); the 7 bits of a block count.")
    static void promise07_returnsMoreThan0() {
        PickedForms x = new PickedForms();
        x.set(2, 3);
        Columns.addBlock(x, 0, 999, 999, 999);
        check.same("plain of 40 to 10 and 14, and 7", x.split(0, 1), 9);
    }

    @Says("Returns how many bits less the rooms of both are together than the room was "
        + "(below 0 if they are more); the 7 bits of a block count.")
    static void promise07_returnsByTheRoomNotByTheBits() {
        PickedForms x = Columns.block(100, 101, 103, 102);
        x.change(1, 100);
        x.change(2, 100);
        x.change(3, 100);
        int before = x.count(3);
        check.same("bits of 14 in a room of 22", x.split(0, 2), -13);
        check.same("what count(3) grows by", x.count(3) - before, 13);
    }

    @Says("It has at most 12 blocks, numbered from 0 in their order")
    static void promise07_theBlocksBehindMoveDown() {
        PickedForms x = Columns.rich();
        x.split(0, 1);
        check.same("split(0, 1)", rows(x), "0/1/10 0/1/10 1/4/22 2/7/28 3/6/29 4/5/29");
        x.undo();
        x.split(2, 5);
        check.same("split(2, 5)", rows(x), "0/2/20 1/4/22 1/5/14 1/2/14 3/6/29 4/5/29");
        x.undo();
        x.split(4, 4);
        check.same("split(4, 4)", rows(x), "0/2/20 1/4/22 2/7/28 3/6/29 4/4/28 0/1/10");
        check.same("values", Columns.values(x), Columns.values(Columns.rich()));
    }

    @Says("New blocks, and blocks that are joined or split, are written anew.")
    static void promise07_bothAreWrittenAnew() {
        PickedForms x = Columns.block(3, 3, 3, 3, 3, 900, 900);
        x.set(2, 1);
        x.split(0, 5);
        check.same("the first", x.block(0, 0) + " " + x.block(0, 3), "0 50");
        check.same("the second", x.block(1, 0) + " " + x.block(1, 3), "0 20");
        check.same("blocks written anew", x.count(5), 3);
    }

    @Says("Undoable.")
    static void promise07_isUndone() {
        twins.undoable("split(0, 1)", Columns::rich, x -> x.split(0, 1));
        twins.undoable("split(2, 5)", Columns::rich, x -> x.split(2, 5));
        twins.undoable("split(4, 4)", Columns::rich, x -> x.split(4, 4));
        twins.undoable("split(0, 15)", BlocksEdgesTest::sixteen, x -> x.split(0, 15));
    }

    // ---- promise 8: drop

    @Says({"Drops a block, with its values.", "`block`: its number"})
    static void promise08_letsInTheFirstBlock() {
        PickedForms x = Columns.rich();
        check.same("drop(0)", x.drop(0), 2);
        check.same("lengths", Columns.lengths(x), "4 7 6 5 +3");
        check.same("values", Columns.values(x), "100,102,103,102,3,3,3,3,3,900,900,"
                + "5,5,5,7,7,9,0,999,0,999,0,50,60,70");
        check.same("forms", x.block(0, 0) + " " + x.block(1, 0) + " " + x.block(2, 0) + " "
                + x.block(3, 0), "1 2 3 4");
    }

    @Says("Drops a block, with its values.")
    static void promise08_letsInTheLastBlock() {
        PickedForms x = Columns.rich();
        check.same("drop(4)", x.drop(4), 5);
        check.same("lengths", Columns.lengths(x), "2 4 7 6 +3");
        check.same("the tail stays", x.value(19, 0), 50);
        PickedForms full = Columns.brimful();
        check.same("drop(11)", full.drop(11), 16);
        check.same("values", full.count(0), 191);
        check.same("the last value", full.value(190, 0), 500);
    }

    @Says("Throws `IndexOutOfBoundsException` if there is no such block")
    static void promise08_refusesTheBlockMinus1() {
        twins.refused("drop(-1)", Columns::richWithSixStates, Columns.INDEX, x -> x.drop(-1));
        twins.refused("the least int", Columns::rich, Columns.INDEX,
                x -> x.drop(Integer.MIN_VALUE));
    }

    @Says("Throws `IndexOutOfBoundsException` if there is no such block")
    static void promise08_refusesTheBlockBehindTheLast() {
        twins.refused("drop(5)", Columns::richWithSixStates, Columns.INDEX, x -> x.drop(5));
        twins.refused("drop(12)", Columns::brimfulWithAll, Columns.INDEX, x -> x.drop(12));
        twins.refused("the greatest int", Columns::rich, Columns.INDEX,
                x -> x.drop(Integer.MAX_VALUE));
    }

    @Says("Throws `IndexOutOfBoundsException` if there is no such block")
    static void promise08_refusesTheBlock0WithoutBlocks() {
        twins.refused("no values", PickedForms::new, Columns.INDEX, x -> x.drop(0));
        twins.refused("a tail alone", () -> Columns.of(1, 2), Columns.INDEX, x -> x.drop(0));
    }

    @Says("Returns how many values it had.")
    static void promise08_returns1To16() {
        check.same("a block of 1", Columns.block(5).drop(0), 1);
        check.same("a block of 16", sixteen().drop(0), 16);
    }

    @Says("Drops a block, with its values.")
    static void promise08_theOnlyBlockLeavesNothing() {
        PickedForms x = Columns.block(5);
        x.drop(0);
        check.same("values", x.count(0), 0);
        check.same("blocks", x.count(1), 0);
        check.same("sum", x.count(7), 0);
        check.same("write() begins anew", x.write(3), 1);
        check.same("value", x.value(0, 0), 3);
    }

    @Says("Drops a block, with its values.")
    static void promise08_makesPlaceForATwelfthBlock() {
        PickedForms x = Columns.twelveShort();
        x.write(5);
        x.drop(0);
        check.same("close()", x.close(), 0);
        check.same("blocks", x.count(1), 12);
    }

    @Says("Drops a block, with its values.")
    static void promise08_nothingElseIsCountedOrWrittenAnew() {
        PickedForms x = Columns.rich();
        int inPlace = x.count(4);
        x.set(2, 1);
        x.drop(1);
        check.same("blocks written anew", x.count(5), 5);
        check.same("values changed in place", x.count(4), inPlace);
        check.same("rooms", x.block(0, 3) + " " + x.block(1, 3) + " " + x.block(2, 3) + " "
                + x.block(3, 3), "20 28 29 29");
    }

    @Says("Undoable.")
    static void promise08_isUndone() {
        for (int block = 0; block < 5; block++) {
            int number = block;
            twins.undoable("drop(" + block + ")", Columns::rich, x -> x.drop(number));
        }
        twins.undoable("drop(0) of a full column", Columns::full, x -> x.drop(0));
    }

    // ---- promise 9: set

    private static void letsIn(int setting, int least, int greatest) {
        PickedForms x = new PickedForms();
        int first = x.setting(setting);
        check.same("set(" + setting + ", " + least + ")", x.set(setting, least), first);
        check.same("the setting", x.setting(setting), least);
        check.same("set(" + setting + ", " + greatest + ")", x.set(setting, greatest), least);
        check.same("the setting", x.setting(setting), greatest);
        for (int other = 0; other < 3; other++) {
            if (other != setting) {
                check.same("another setting", x.setting(other), other == 2 ? 31 : 16);
            }
        }
    }

    private static void refusesValue(int setting, int value) {
        twins.refused("set(" + setting + ", " + value + ")", Columns::richWithSixStates,
                Columns.ARGUMENT, x -> x.set(setting, value));
    }

    @Says({"Changes a setting.", "`setting`: 0 to 2", "`value`: the new value",
        "0: the values of a sample, 1 to 16, at first 16;"})
    static void promise09_letsInASampleOf1And16() {
        letsIn(0, 1, 16);
    }

    @Says("Throws `IllegalArgumentException` if value is out of range")
    static void promise09_refusesASampleOf0And17() {
        refusesValue(0, 0);
        refusesValue(0, 17);
        refusesValue(0, -1);
        refusesValue(0, 31);
        refusesValue(0, Integer.MIN_VALUE);
        refusesValue(0, Integer.MAX_VALUE);
    }

    @Says("1: the values with which the tail is closed, 2 to 16, at first 16;")
    static void promise09_letsInAClosingWith2And16() {
        letsIn(1, 2, 16);
    }

    @Says("Throws `IllegalArgumentException` if value is out of range")
    static void promise09_refusesAClosingWith1And17() {
        refusesValue(1, 1);
        refusesValue(1, 17);
        refusesValue(1, 0);
        refusesValue(1, -1);
        refusesValue(1, Integer.MIN_VALUE);
        refusesValue(1, Integer.MAX_VALUE);
    }

    @Says("2: the allowed forms, a mask from 1 to 31 with the bit 0 (plain is always allowed), "
        + "at first 31.")
    static void promise09_letsInTheMasks1And31() {
        letsIn(2, 1, 31);
    }

    @Says("2: the allowed forms, a mask from 1 to 31 with the bit 0 (plain is always allowed), "
        + "at first 31.")
    static void promise09_letsInEachMaskWithTheBit0() {
        PickedForms x = new PickedForms();
        int previous = 31;
        for (int mask = 1; mask <= 31; mask += 2) {
            check.same("set(2, " + mask + ")", x.set(2, mask), previous);
            previous = mask;
        }
    }

    @Says("Throws `IllegalArgumentException` if value is out of range")
    static void promise09_refusesTheMasks0And32() {
        refusesValue(2, 0);
        refusesValue(2, 32);
        refusesValue(2, 33);
        refusesValue(2, 63);
        refusesValue(2, -1);
        refusesValue(2, Integer.MIN_VALUE);
        refusesValue(2, Integer.MIN_VALUE + 1);
        refusesValue(2, Integer.MAX_VALUE);
    }

    @Says({"Throws `IllegalArgumentException` if value is out of range",
        "2: the allowed forms, a mask from 1 to 31 with the bit 0 (plain is always allowed), "
            + "at first 31."})
    static void promise09_refusesEachMaskWithoutTheBit0() {
        for (int mask = 2; mask <= 30; mask += 2) {
            refusesValue(2, mask);
        }
    }

    @Says("Throws `IndexOutOfBoundsException` if there is no such setting")
    static void promise09_refusesTheSettingsMinus1And3() {
        twins.refused("set(-1, 5)", Columns::richWithSixStates, Columns.INDEX, x -> x.set(-1, 5));
        twins.refused("set(3, 5)", Columns::richWithSixStates, Columns.INDEX, x -> x.set(3, 5));
        twins.refused("the least int", Columns::rich, Columns.INDEX,
                x -> x.set(Integer.MIN_VALUE, 5));
        twins.refused("the greatest int", Columns::rich, Columns.INDEX,
                x -> x.set(Integer.MAX_VALUE, 5));
    }

    @Says("If several exceptions apply, the one that is named first in the throws clause "
        + "is thrown.")
    static void promise09_refusesTheSettingFirst() {
        twins.refused("set(-1, 0)", Columns::rich, Columns.INDEX, x -> x.set(-1, 0));
        twins.refused("set(3, 0)", Columns::rich, Columns.INDEX, x -> x.set(3, 0));
        twins.refused("set(3, 32)", Columns::rich, Columns.INDEX, x -> x.set(3, 32));
    }

    @Says("Returns the previous value.")
    static void promise09_returnsThePreviousValueNotTheFirst() {
        PickedForms x = new PickedForms();
        x.set(0, 7);
        check.same("set(0, 9)", x.set(0, 9), 7);
        check.same("set(0, 9) again", x.set(0, 9), 9);
    }

    @Says("When a setting changes, nothing is written anew.")
    static void promise09_nothingIsWrittenAnew() {
        PickedForms x = Columns.rich();
        String before = forms(x);
        x.set(0, 1);
        x.set(1, 2);
        x.set(2, 1);
        check.same("forms, rooms, lengths and counts", forms(x), before);
        x.set(0, 16);
        x.set(1, 16);
        x.set(2, 31);
        check.same("forms, rooms, lengths and counts", forms(x), before);
    }

    private static String forms(PickedForms x) {
        StringBuilder all = new StringBuilder(Columns.lengths(x));
        for (int block = 0; block < x.count(1); block++) {
            all.append(' ').append(x.block(block, 0)).append('/').append(x.block(block, 3));
        }
        return all.append(' ').append(x.count(4)).append(' ').append(x.count(5)).toString();
    }

    @Says({"Undoable.", "(also if it changes nothing)"})
    static void promise09_isUndone() {
        for (int setting = 0; setting < 3; setting++) {
            int number = setting;
            twins.undoable("set(" + setting + ", 3)", Columns::rich, x -> x.set(number, 3));
            twins.undoable("set(" + setting + ") to what it is", Columns::rich,
                    x -> x.set(number, x.setting(number)));
        }
    }
}
