/** Promises 1 to 4 at their edges: a new object, write, close, change. */
final class WritingEdgesTest {

    private static final Check check = new Check("WritingEdgesTest");
    private static final Twins twins = new Twins(check);

    public static void main(String[] args) {
        Edges.run(WritingEdgesTest.class, check);
    }

    // ---- promise 1: a new object

    @Says("Creates a column without values, with an empty buffer and no snapshot.")
    static void promise01_hasNoValues() {
        PickedForms x = new PickedForms();
        for (int what = 0; what <= 8; what++) {
            check.same("count(" + what + ")", x.count(what), 0);
        }
        twins.refused("value(0, 0)", PickedForms::new, Columns.INDEX, y -> y.value(0, 0));
        twins.refused("block(0, 0)", PickedForms::new, Columns.INDEX, y -> y.block(0, 0));
    }

    @Says("Creates a column without values, with an empty buffer and no snapshot.")
    static void promise01_hasAnEmptyBuffer() {
        PickedForms x = new PickedForms();
        check.same("firstError()", x.firstError(), 0);
        check.same("clearBuffer()", x.clearBuffer(), 0);
        check.same("append() of the first", x.append('1'), 1);
    }

    @Says("Creates a column without values, with an empty buffer and no snapshot.")
    static void promise01_hasNoSnapshot() {
        twins.refused("goBack()", PickedForms::new, Columns.STATE, PickedForms::goBack);
    }

    @Says("all, also what is counted so far, but the buffer, the snapshot and the saved states.")
    static void promise01_hasNoSavedState() {
        twins.refused("undo()", PickedForms::new, Columns.STATE, PickedForms::undo);
    }

    @Says({"0: the values of a sample, 1 to 16, at first 16;",
        "1: the values with which the tail is closed, 2 to 16, at first 16;",
        "2: the allowed forms, a mask from 1 to 31 with the bit 0 (plain is always allowed), "
            + "at first 31."})
    static void promise01_settingsAtFirst() {
        PickedForms x = new PickedForms();
        check.same("setting(0)", x.setting(0), 16);
        check.same("setting(1)", x.setting(1), 16);
        check.same("setting(2)", x.setting(2), 31);
    }

    @Says("An object is used for at most 512 calls after it has been made; "
        + "what later calls answer is free.")
    static void promise01_answersTheCall512() {
        PickedForms x = new PickedForms();
        for (int i = 0; i < 255; i++) {
            x.write(i % 7);
            x.undo();
        }
        check.same("call 511", x.write(7), 1);
        check.same("call 512", x.digest(), Columns.of(7).digest());
    }

    @Says("An object is used for at most 512 calls after it has been made; "
        + "what later calls answer is free.")
    static void promise01_answersTheCall512OfAFullColumn() {
        PickedForms x = new PickedForms();
        for (int i = 0; i < 207; i++) {
            x.write(i * 37 % 1000);
        }
        PickedForms twin = new PickedForms();
        for (int i = 0; i < 207; i++) {
            twin.write(i * 37 % 1000);
        }
        for (int i = 0; i < 304; i++) {
            x.value(i % 207, i % 4);
        }
        check.same("call 512", x.digest(), twin.digest());
    }

    @Says("Creates a column without values, with an empty buffer and no snapshot.")
    static void promise01_objectsStandApart() {
        PickedForms x = Columns.rich();
        PickedForms y = new PickedForms();
        String before = Twins.trace(Columns.rich());
        Columns.loaded(y, "999*16");
        y.keep();
        y.set(2, 1);
        y.append('9');
        check.same("the other object", Twins.trace(x), before);
        check.same("one more object", Twins.trace(new PickedForms()),
                "state +0 0 0 0 0 0 0 0 0 0 " + EmptyHash.of(16, 16, 31)
                + " error 0 goBack throws.IllegalStateException state +0 0 0 0 0 0 0 0 0 0 "
                + EmptyHash.of(16, 16, 31) + " buffer 0");
    }

    // ---- promise 2: write

    @Says({"`value`: 0 to 999", "A column is a row of values, 0 to 999 each."})
    static void promise02_letsIn0() {
        PickedForms x = new PickedForms();
        check.same("write(0)", x.write(0), 1);
        check.same("the value", x.value(0, 0), 0);
    }

    @Says({"`value`: 0 to 999", "A column is a row of values, 0 to 999 each."})
    static void promise02_letsIn999() {
        PickedForms x = new PickedForms();
        check.same("write(999)", x.write(999), 1);
        check.same("the value", x.value(0, 0), 999);
    }

    @Says("Throws `IllegalArgumentException` if value is out of range")
    static void promise02_refusesMinus1() {
        twins.refused("write(-1)", PickedForms::new, Columns.ARGUMENT, x -> x.write(-1));
        twins.refused("write(-1)", Columns::richWithSixStates, Columns.ARGUMENT,
                x -> x.write(-1));
    }

    @Says("Throws `IllegalArgumentException` if value is out of range")
    static void promise02_refuses1000() {
        twins.refused("write(1000)", PickedForms::new, Columns.ARGUMENT, x -> x.write(1000));
        twins.refused("write(1000)", Columns::richWithSixStates, Columns.ARGUMENT,
                x -> x.write(1000));
    }

    @Says("Throws `IllegalArgumentException` if value is out of range")
    static void promise02_refusesTheLeastAndTheGreatestInt() {
        twins.refused("the least int", Columns::rich, Columns.ARGUMENT,
                x -> x.write(Integer.MIN_VALUE));
        twins.refused("the greatest int", Columns::rich, Columns.ARGUMENT,
                x -> x.write(Integer.MAX_VALUE));
    }

    @Says("Returns how many values the column has then.")
    static void promise02_returns1ForTheFirst() {
        check.same("write()", new PickedForms().write(5), 1);
    }

    @Says("Returns how many values the column has then.")
    static void promise02_returns207ForTheLastThatFits() {
        PickedForms x = Columns.full();
        Columns.loaded(x, "5*14");
        check.same("write() of the last one", x.write(5), 207);
        check.same("values", x.count(0), 207);
    }

    @Says("Returns how many values the column has then.")
    static void promise02_returnsAllValuesWhereItCloses() {
        PickedForms x = Columns.block(1, 2, 3);
        Columns.loaded(x, "4*15");
        check.same("write() that closes", x.write(5), 19);
    }

    @Says({"Writes a value.", "A value that is written comes to the end of the tail."})
    static void promise02_comesToTheEndOfTheTail() {
        PickedForms x = Columns.block(9, 9, 9);
        x.write(4);
        x.write(7);
        check.same("values", Columns.values(x), "9,9,9,4,7");
        check.same("the place of the last one in the tail", x.value(4, 2), 1);
        check.same("its block", x.value(4, 1), PickedForms.NONE);
    }

    @Says("When the tail has setting 1 values or more behind a write, it is closed: "
        + "its values become a new block, at the end, and the tail is empty then.")
    static void promise02_oneBelowSetting1StaysInTheTail() {
        PickedForms x = Columns.of(1, 2, 3, 4, 5, 6, 7, 8, 9, 10, 11, 12, 13, 14, 15);
        check.same("at first: 15 of 16", Columns.lengths(x), "+15");
        PickedForms y = new PickedForms();
        y.set(1, 2);
        y.write(1);
        check.same("1 of 2", Columns.lengths(y), "+1");
    }

    @Says("When the tail has setting 1 values or more behind a write, it is closed: "
        + "its values become a new block, at the end, and the tail is empty then.")
    static void promise02_atSetting1TheTailIsClosed() {
        PickedForms x = Columns.of(1, 2, 3, 4, 5, 6, 7, 8, 9, 10, 11, 12, 13, 14, 15, 16);
        check.same("at first: 16 of 16", Columns.lengths(x), "16 +0");
        check.same("blocks written anew", x.count(5), 1);
        PickedForms y = new PickedForms();
        y.set(1, 2);
        Columns.writeAll(y, 1, 2);
        check.same("2 of 2", Columns.lengths(y), "2 +0");
        Columns.writeAll(y, 3, 4, 5);
        check.same("and again", Columns.lengths(y), "2 2 +1");
    }

    @Says("When the tail has setting 1 values or more behind a write, it is closed: "
        + "its values become a new block, at the end, and the tail is empty then.")
    static void promise02_aboveSetting1TheTailIsClosed() {
        PickedForms x = Columns.of(1, 2, 3, 4, 5, 6, 7, 8, 9, 10, 11, 12, 13, 14, 15);
        x.set(1, 2);
        check.same("the setting closes nothing", Columns.lengths(x), "+15");
        check.same("write()", x.write(16), 16);
        check.same("16 where 2 are enough", Columns.lengths(x), "16 +0");
        PickedForms y = Columns.of(1, 2, 3);
        y.set(1, 3);
        y.write(4);
        check.same("4 where 3 are enough", Columns.lengths(y), "4 +0");
    }

    @Says("When the tail has setting 1 values or more behind a write, it is closed: "
        + "its values become a new block, at the end, and the tail is empty then.")
    static void promise02_theNewBlockIsTheLastOne() {
        PickedForms x = Columns.block(1, 2, 3);
        x.set(1, 2);
        Columns.writeAll(x, 8, 6);
        check.same("lengths", Columns.lengths(x), "3 2 +0");
        check.same("its least value", x.block(1, 4), 6);
        check.same("the index of its first value", x.block(1, 9), 3);
        check.same("the values", Columns.values(x), "1,2,3,8,6");
    }

    @Says("It has at most 12 blocks, numbered from 0 in their order, each with 1 to 16 values, "
        + "and behind them a tail of at most 15 values, which are in no block yet.")
    static void promise02_theTwelfthBlockIsLetIn() {
        PickedForms x = Columns.twelveShort();
        x.drop(0);
        Columns.loaded(x, "5*15");
        check.same("write() that closes the twelfth", x.write(5), 27);
        check.same("blocks", x.count(1), 12);
        check.same("tail", x.count(2), 0);
    }

    @Says("Throws `IllegalStateException` if the tail would be closed by this, "
        + "and there are 12 blocks")
    static void promise02_theThirteenthBlockIsRefused() {
        twins.refused("write()", Columns::brimful, Columns.STATE, x -> x.write(5));
        twins.refused("write()", Columns::brimfulWithAll, Columns.STATE, x -> x.write(5));
    }

    @Says({"Throws `IllegalStateException` if the tail would be closed by this, "
        + "and there are 12 blocks",
        "and behind them a tail of at most 15 values, which are in no block yet."})
    static void promise02_twelveBlocksLetInATailOf15() {
        PickedForms x = Columns.full();
        for (int i = 1; i <= 15; i++) {
            check.same("write()", x.write(i), 192 + i);
        }
        check.same("tail", x.count(2), 15);
    }

    private static PickedForms twelveAndTail(int tail, int setting) {
        PickedForms x = Columns.twelveShort();
        for (int i = 0; i < tail; i++) {
            x.write(i);
        }
        x.set(1, setting);
        return x;
    }

    @Says("Throws `IllegalStateException` if the tail would be closed by this, "
        + "and there are 12 blocks")
    static void promise02_twelveBlocksLetInWhatClosesNothing() {
        check.same("0 of 2", twelveAndTail(0, 2).write(1), 13);
        check.same("5 of 7", twelveAndTail(5, 7).write(1), 18);
        check.same("14 of 16", twelveAndTail(14, 16).write(1), 27);
    }

    @Says("Throws `IllegalStateException` if the tail would be closed by this, "
        + "and there are 12 blocks")
    static void promise02_twelveBlocksRefuseWhatCloses() {
        twins.refused("1 of 2", () -> twelveAndTail(1, 2), Columns.STATE, x -> x.write(1));
        twins.refused("5 of 6", () -> twelveAndTail(5, 6), Columns.STATE, x -> x.write(1));
        twins.refused("5 of 5", () -> twelveAndTail(5, 5), Columns.STATE, x -> x.write(1));
        twins.refused("5 of 2", () -> twelveAndTail(5, 2), Columns.STATE, x -> x.write(1));
        twins.refused("15 of 16", () -> twelveAndTail(15, 16), Columns.STATE, x -> x.write(1));
    }

    @Says("If several exceptions apply, the one that is named first in the throws clause "
        + "is thrown.")
    static void promise02_refusesTheArgumentFirst() {
        twins.refused("write(1000)", Columns::brimfulWithAll, Columns.ARGUMENT,
                x -> x.write(1000));
        twins.refused("write(-1)", Columns::brimfulWithAll, Columns.ARGUMENT, x -> x.write(-1));
    }

    @Says("Undoable.")
    static void promise02_isUndone() {
        twins.undoable("write()", PickedForms::new, x -> x.write(5));
        twins.undoable("write()", Columns::rich, x -> x.write(5));
        twins.undoable("write() of the last one", Columns::full, x -> x.write(5));
    }

    private static PickedForms withATailOf15() {
        PickedForms x = Columns.block(1, 2, 3);
        Columns.loaded(x, "4*15");
        Columns.settle(x);
        return x;
    }

    @Says("Undoable.")
    static void promise02_isUndoneWhereItCloses() {
        PickedForms x = withATailOf15();
        x.write(5);
        check.same("the tail is closed", Columns.lengths(x), "3 16 +0");
        check.same("blocks written anew", x.count(5), 2);
        x.undo();
        check.same("the tail is back", Columns.lengths(x), "3 +15");
        check.same("blocks written anew, undone", x.count(5), 1);
        twins.undoable("write()", WritingEdgesTest::withATailOf15, y -> y.write(5));
    }

    // ---- promise 3: close

    @Says("Throws `IllegalStateException` if the tail is empty, or there are 12 blocks")
    static void promise03_refusesAnEmptyTail() {
        twins.refused("no values", PickedForms::new, Columns.STATE, PickedForms::close);
        twins.refused("a block alone", () -> Columns.block(1, 2), Columns.STATE,
                PickedForms::close);
        twins.refused("a tail closed by a write", Columns::full, Columns.STATE,
                PickedForms::close);
    }

    @Says({"Closes the tail: its values become a new block.",
        "each with 1 to 16 values"})
    static void promise03_letsInATailOf1() {
        PickedForms x = Columns.of(7);
        check.same("close()", x.close(), 0);
        check.same("lengths", Columns.lengths(x), "1 +0");
        check.same("the value", x.value(0, 0), 7);
    }

    @Says("Closes the tail: its values become a new block.")
    static void promise03_letsInATailOf15() {
        PickedForms x = new PickedForms();
        Columns.loaded(x, "7*15");
        check.same("close()", x.close(), 1);
        check.same("lengths", Columns.lengths(x), "15 +0");
    }

    @Says("It has at most 12 blocks, numbered from 0 in their order, each with 1 to 16 values, "
        + "and behind them a tail of at most 15 values, which are in no block yet.")
    static void promise03_letsInTheTwelfthBlock() {
        PickedForms x = Columns.twelveShort();
        x.drop(3);
        x.write(5);
        check.same("close()", x.close(), 0);
        check.same("blocks", x.count(1), 12);
        check.same("the last one", x.block(11, 4), 5);
    }

    private static PickedForms twelveShortAndOne() {
        PickedForms x = Columns.twelveShort();
        x.write(5);
        return x;
    }

    @Says("Throws `IllegalStateException` if the tail is empty, or there are 12 blocks")
    static void promise03_refusesTheThirteenthBlock() {
        twins.refused("a tail of 1", WritingEdgesTest::twelveShortAndOne, Columns.STATE,
                PickedForms::close);
        twins.refused("a tail of 15", Columns::brimfulWithAll, Columns.STATE,
                PickedForms::close);
    }

    @Says("Throws `IllegalStateException` if the tail is empty, or there are 12 blocks")
    static void promise03_refusesAnEmptyTailBehindTwelveBlocks() {
        twins.refused("close()", Columns::twelveShort, Columns.STATE, PickedForms::close);
    }

    private static void closes(int form, int... values) {
        check.same("close() of form " + form, Columns.of(values).close(), form);
    }

    @Says("Returns the form of the block.")
    static void promise03_returnsEachForm() {
        closes(0, 1, 999);
        closes(1, 100, 101, 103, 102);
        closes(2, 3, 3, 3, 3, 3, 900, 900);
        closes(3, 5, 5, 5, 7, 7, 9);
        closes(4, 0, 999, 0, 999, 0);
    }

    @Says("Returns the form of the block.")
    static void promise03_returnsTheFormOfTheNewBlockNotOfAnother() {
        PickedForms x = Columns.block(3, 3, 3, 3, 3, 900, 900);
        Columns.writeAll(x, 0, 999, 0, 999, 0);
        check.same("close()", x.close(), 4);
        check.same("the block ahead", x.block(0, 0), 2);
    }

    @Says("Undoable.")
    static void promise03_isUndone() {
        twins.undoable("close()", () -> Columns.of(5), PickedForms::close);
        twins.undoable("close()", Columns::rich, PickedForms::close);
        PickedForms x = Columns.rich();
        check.same("blocks written anew", x.count(5), 5);
        x.close();
        check.same("blocks written anew", x.count(5), 6);
        x.undo();
        check.same("blocks written anew, undone", x.count(5), 5);
    }

    // ---- promise 4: change

    private static PickedForms blockAndTail() {
        PickedForms x = Columns.block(1, 2);
        x.write(3);
        return x;
    }

    @Says({"Changes a value.", "`index`: the index of a value"})
    static void promise04_letsInTheFirstIndex() {
        PickedForms x = blockAndTail();
        check.same("change(0, 1)", x.change(0, 1), 1);
        x.change(0, 999);
        check.same("values", Columns.values(x), "999,2,3");
    }

    @Says("`index`: the index of a value")
    static void promise04_letsInTheLastIndex() {
        PickedForms x = blockAndTail();
        check.same("change(2, 999)", x.change(2, 999), 0);
        check.same("values", Columns.values(x), "1,2,999");
        PickedForms y = Columns.brimful();
        check.same("change(206, 0)", y.change(206, 0), 0);
        check.same("value(206, 0)", y.value(206, 0), 0);
    }

    @Says("Throws `IndexOutOfBoundsException` if there is no such value")
    static void promise04_refusesTheIndexMinus1() {
        twins.refused("change(-1, 5)", Columns::richWithSixStates, Columns.INDEX,
                x -> x.change(-1, 5));
        twins.refused("the least int", Columns::rich, Columns.INDEX,
                x -> x.change(Integer.MIN_VALUE, 5));
    }

    @Says("Throws `IndexOutOfBoundsException` if there is no such value")
    static void promise04_refusesTheIndexBehindTheLast() {
        twins.refused("change(3, 5)", WritingEdgesTest::blockAndTail, Columns.INDEX,
                x -> x.change(3, 5));
        twins.refused("change(2, 5)", () -> Columns.block(1, 2), Columns.INDEX,
                x -> x.change(2, 5));
        twins.refused("change(207, 5)", Columns::brimfulWithAll, Columns.INDEX,
                x -> x.change(207, 5));
        twins.refused("the greatest int", Columns::rich, Columns.INDEX,
                x -> x.change(Integer.MAX_VALUE, 5));
    }

    @Says("Throws `IndexOutOfBoundsException` if there is no such value")
    static void promise04_refusesTheIndex0WithoutValues() {
        twins.refused("change(0, 5)", PickedForms::new, Columns.INDEX, x -> x.change(0, 5));
    }

    @Says("`value`: 0 to 999")
    static void promise04_letsIn0And999() {
        PickedForms x = blockAndTail();
        x.change(0, 0);
        x.change(1, 999);
        x.change(2, 0);
        check.same("values", Columns.values(x), "0,999,0");
        x.change(2, 999);
        check.same("values", Columns.values(x), "0,999,999");
    }

    @Says("Throws `IllegalArgumentException` if value is out of range")
    static void promise04_refusesMinus1() {
        twins.refused("in a block", Columns::richWithSixStates, Columns.ARGUMENT,
                x -> x.change(0, -1));
        twins.refused("in the tail", WritingEdgesTest::blockAndTail, Columns.ARGUMENT,
                x -> x.change(2, -1));
        twins.refused("the least int", Columns::rich, Columns.ARGUMENT,
                x -> x.change(0, Integer.MIN_VALUE));
    }

    @Says("Throws `IllegalArgumentException` if value is out of range")
    static void promise04_refuses1000() {
        twins.refused("in a block", Columns::richWithSixStates, Columns.ARGUMENT,
                x -> x.change(0, 1000));
        twins.refused("in the tail", WritingEdgesTest::blockAndTail, Columns.ARGUMENT,
                x -> x.change(2, 1000));
        twins.refused("the greatest int", Columns::rich, Columns.ARGUMENT,
                x -> x.change(0, Integer.MAX_VALUE));
    }

    @Says("If several exceptions apply, the one that is named first in the throws clause "
        + "is thrown.")
    static void promise04_refusesTheIndexFirst() {
        twins.refused("change(-1, 1000)", Columns::rich, Columns.INDEX,
                x -> x.change(-1, 1000));
        twins.refused("change(3, -1)", WritingEdgesTest::blockAndTail, Columns.INDEX,
                x -> x.change(3, -1));
        twins.refused("change(0, -1)", PickedForms::new, Columns.INDEX, x -> x.change(0, -1));
    }

    @Says("Returns 0 if it is in the tail, 1 if it is changed in place, "
        + "2 if its block is written anew.")
    static void promise04_lastOfABlockAndFirstOfTheTail() {
        PickedForms x = Columns.block(100, 101, 103, 102);
        x.write(9);
        check.same("the last of the block", x.change(3, 900), 2);
        check.same("the first of the tail", x.change(4, 900), 0);
        check.same("values", Columns.values(x), "100,101,103,900,900");
    }

    @Says("Returns 0 if it is in the tail, 1 if it is changed in place, "
        + "2 if its block is written anew.")
    static void promise04_lastOfABlockAndFirstOfTheNext() {
        PickedForms x = Columns.block(100, 101, 103, 102);
        Columns.addBlock(x, 1, 999);
        Columns.addBlock(x, 100, 101, 103, 102);
        check.same("the last of block 0", x.change(3, 900), 2);
        check.same("form of block 0", x.block(0, 0), 0);
        check.same("the first of block 1, which is plain", x.change(4, 700), 1);
        check.same("the last of block 1, which is plain", x.change(5, 0), 1);
        check.same("the first of block 2", x.change(6, 0), 2);
        check.same("values", Columns.values(x), "100,101,103,900,700,0,0,101,103,102");
    }

    @Says("When a value of a block is changed, and its bits in its form are at most its room "
        + "then, it is changed in place: form and room stay.")
    static void promise04_justTheRoomIsInPlace() {
        PickedForms packed = Columns.block(100, 101, 103, 102);
        check.same("packed of 22 in 22", packed.change(1, 102), 1);
        check.same("its bits", packed.block(0, 2), 22);
        PickedForms deltas = Columns.block(3, 1);
        check.same("deltas of 16", deltas.block(0, 3), 16);
        check.same("deltas of 16 in 16", deltas.change(1, 4), 1);
        check.same("its bits", deltas.block(0, 2), 16);
        check.same("its form", deltas.block(0, 0), 3);
    }

    @Says("Otherwise the block is written anew.")
    static void promise04_oneBitMoreIsWrittenAnew() {
        PickedForms x = Columns.block(3, 1);
        check.same("deltas of 17 in 16", x.change(1, 0), 2);
        check.same("form", x.block(0, 0), 3);
        check.same("room", x.block(0, 3), 17);
        check.same("blocks written anew", x.count(5), 2);
        check.same("values changed in place", x.count(4), 0);
    }

    @Says("When a value of a block is changed, and its bits in its form are at most its room "
        + "then, it is changed in place: form and room stay.")
    static void promise04_oneBitLessIsInPlace() {
        PickedForms x = Columns.block(3, 1);
        check.same("deltas of 15 in 16", x.change(1, 2), 1);
        check.same("form", x.block(0, 0), 3);
        check.same("bits", x.block(0, 2), 15);
        check.same("room", x.block(0, 3), 16);
        check.same("back to the whole room", x.change(1, 1), 1);
        check.same("values changed in place", x.count(4), 2);
    }

    @Says("When a value of a block is changed, and its bits in its form are at most its room "
        + "then, it is changed in place: form and room stay.")
    static void promise04_plainIsAlwaysInPlace() {
        PickedForms x = Columns.block(1, 999);
        check.same("change()", x.change(0, 999), 1);
        check.same("the form stays, though packed takes less", x.block(0, 0), 0);
        check.same("the room stays", x.block(0, 3), 20);
        PickedForms one = Columns.block(0);
        check.same("change() of a block of one value", one.change(0, 999), 1);
    }

    @Says("When a value of a block is changed, and its bits in its form are at most its room "
        + "then, it is changed in place: form and room stay.")
    static void promise04_runsAndListedAtTheirRoom() {
        PickedForms runs = Columns.block(3, 3, 3, 3, 3, 900, 900);
        check.same("as many runs", runs.change(4, 900), 1);
        check.same("fewer runs", runs.change(4, 3), 1);
        check.same("one run more", runs.change(3, 4), 2);
        PickedForms listed = Columns.block(0, 999, 0, 999, 0);
        check.same("as many unlike values", listed.change(0, 999), 1);
        check.same("one unlike value more", listed.change(0, 5), 2);
    }

    @Says("Returns 0 if it is in the tail, 1 if it is changed in place, "
        + "2 if its block is written anew.")
    static void promise04_inTheTailNothingIsCounted() {
        PickedForms x = blockAndTail();
        check.same("change()", x.change(2, 7), 0);
        check.same("values changed in place", x.count(4), 0);
        check.same("blocks written anew", x.count(5), 1);
        check.same("saved states", x.count(8), 5);
    }

    @Says("(also if it changes nothing)")
    static void promise04_toWhatItWasSavesAState() {
        twins.undoable("in the tail", () -> Columns.of(5), x -> x.change(0, 5));
        twins.undoable("in a block", Columns::rich, x -> x.change(0, 1));
        PickedForms x = Columns.rich();
        int before = x.count(4);
        x.change(0, 1);
        check.same("it counts", x.count(4), before + 1);
    }

    @Says("Undoable.")
    static void promise04_isUndone() {
        twins.undoable("in the tail", Columns::rich, x -> x.change(26, 0));
        twins.undoable("in place", Columns::rich, x -> x.change(1, 0));
        twins.undoable("anew", Columns::rich, x -> x.change(8, 500));
    }
}
