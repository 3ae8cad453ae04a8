/** Promises 10 to 16 at their edges: append, clearBuffer, firstError, load, and the states. */
final class TextsEdgesTest {

    private static final Check check = new Check("TextsEdgesTest");
    private static final Twins twins = new Twins(check);

    public static void main(String[] args) {
        Edges.run(TextsEdgesTest.class, check);
    }

    private static PickedForms with(String text) {
        PickedForms x = new PickedForms();
        Columns.appendAll(x, text);
        return x;
    }

    private static String ofLength(int length) {
        return "7,".repeat(30).substring(0, length);
    }

    // ---- promise 10: append

    @Says({"Appends a character to the buffer.", "`code`: the character code, 33 to 126"})
    static void promise10_letsIn33() {
        PickedForms x = new PickedForms();
        check.same("append(33)", x.append(33), 1);
        check.same("the buffer", Twins.trace(x), Twins.trace(with("!")));
    }

    @Says("`code`: the character code, 33 to 126")
    static void promise10_letsIn126() {
        PickedForms x = new PickedForms();
        check.same("append(126)", x.append(126), 1);
        check.same("firstError()", x.firstError(), 0);
    }

    @Says("`code`: the character code, 33 to 126")
    static void promise10_letsInEachCode() {
        PickedForms x = new PickedForms();
        for (int code = 33; code <= 126; code++) {
            check.same("append(" + code + ")", x.append(code), 1);
            x.clearBuffer();
        }
    }

    @Says("Throws `IllegalArgumentException` if code is not 33 to 126")
    static void promise10_refuses32() {
        twins.refused("append(32)", Columns::richWithSixStates, Columns.ARGUMENT,
                x -> x.append(32));
        twins.refused("append(0)", PickedForms::new, Columns.ARGUMENT, x -> x.append(0));
        twins.refused("append(-1)", Columns::rich, Columns.ARGUMENT, x -> x.append(-1));
        twins.refused("the least int", Columns::rich, Columns.ARGUMENT,
                x -> x.append(Integer.MIN_VALUE));
    }

    @Says("Throws `IllegalArgumentException` if code is not 33 to 126")
    static void promise10_refuses127() {
        twins.refused("append(127)", Columns::richWithSixStates, Columns.ARGUMENT,
                x -> x.append(127));
        twins.refused("a code that is 53 in a char", Columns::rich, Columns.ARGUMENT,
                x -> x.append(65536 + 53));
        twins.refused("the greatest int", Columns::rich, Columns.ARGUMENT,
                x -> x.append(Integer.MAX_VALUE));
    }

    @Says({"The buffer has at most 60 characters.", "Returns the new length of the buffer."})
    static void promise10_letsInTheCharacter60() {
        PickedForms x = new PickedForms();
        for (int i = 1; i <= 60; i++) {
            check.same("append() of character " + i, x.append('5'), i);
        }
        check.same("its length", x.clearBuffer(), 60);
    }

    @Says("Throws `IllegalStateException` if the buffer has 60 characters")
    static void promise10_refusesTheCharacter61() {
        twins.refused("append('5')", Columns::brimfulWithAll, Columns.STATE, x -> x.append('5'));
        twins.refused("append('5')", () -> with(ofLength(60)), Columns.STATE,
                x -> x.append('5'));
        twins.refused("append(33)", () -> with(ofLength(60)), Columns.STATE, x -> x.append(33));
    }

    @Says("If several exceptions apply, the one that is named first in the throws clause "
        + "is thrown.")
    static void promise10_refusesTheCodeFirst() {
        twins.refused("append(32)", Columns::brimfulWithAll, Columns.ARGUMENT,
                x -> x.append(32));
        twins.refused("append(127)", Columns::brimfulWithAll, Columns.ARGUMENT,
                x -> x.append(127));
    }

    @Says("Throws `IllegalStateException` if the buffer has 60 characters")
    static void promise10_letsInAgainWhenTheBufferIsCleared() {
        PickedForms x = with(ofLength(60));
        x.clearBuffer();
        check.same("append()", x.append('5'), 1);
    }

    @Says("Each method that is marked \"undoable\" and does not throw an exception saves the "
        + "state from before it")
    static void promise10_savesNoState() {
        PickedForms x = Columns.rich();
        int saved = x.count(8);
        x.append('5');
        check.same("saved states", x.count(8), saved);
        check.same("undo() is of the call ahead", x.undo(), saved - 1);
        check.same("the tail", Columns.lengths(x), "2 4 7 6 5 +2");
        check.same("the buffer stays", x.clearBuffer(), 6);
    }

    // ---- promise 11: clearBuffer

    @Says({"Clears the buffer.", "Returns the length that it had."})
    static void promise11_returns0Without() {
        check.same("clearBuffer()", new PickedForms().clearBuffer(), 0);
        PickedForms x = with("5");
        x.clearBuffer();
        check.same("clearBuffer() again", x.clearBuffer(), 0);
    }

    @Says("Returns the length that it had.")
    static void promise11_returns1To60() {
        for (int length = 1; length <= 60; length += length == 1 ? 58 : 1) {
            check.same("clearBuffer()", with(ofLength(length)).clearBuffer(), length);
        }
    }

    @Says("Clears the buffer.")
    static void promise11_leavesNoCharacter() {
        PickedForms x = with("5*1x");
        x.clearBuffer();
        check.same("firstError()", x.firstError(), 0);
        check.same("the state", Twins.trace(x), Twins.trace(new PickedForms()));
        Columns.appendAll(x, "12");
        check.same("the buffer begins anew", x.load(), 1);
        check.same("the value", x.value(0, 0), 12);
    }

    @Says("Each method that is marked \"undoable\" and does not throw an exception saves the "
        + "state from before it")
    static void promise11_savesNoStateAndIsNotUndone() {
        PickedForms x = Columns.rich();
        int saved = x.count(8);
        check.same("clearBuffer()", x.clearBuffer(), 5);
        check.same("saved states", x.count(8), saved);
        x.undo();
        check.same("the buffer behind undo()", x.clearBuffer(), 0);
    }

    // ---- promise 12: firstError

    private static void error(String text, int due) {
        check.same("firstError() of " + text, with(text).firstError(), due);
    }

    @Says({"Finds the first syntax error of the buffer.",
        "Returns the index of the first character that is a syntax error; the length of the "
            + "buffer if there is none."})
    static void promise12_emptyBuffer() {
        error("", 0);
    }

    @Says("Returns the index of the first character that is a syntax error; the length of the "
        + "buffer if there is none.")
    static void promise12_errorAtTheFirstCharacter() {
        for (String text : new String[] {"*", ",", "x", "!", "~", "/", ":", "+", "-", "."}) {
            error(text, 0);
        }
    }

    @Says("Returns the index of the first character that is a syntax error; the length of the "
        + "buffer if there is none.")
    static void promise12_errorAtTheLastCharacterOf60() {
        error(ofLength(59) + "x", 59);
        error(ofLength(59) + "*", 60);
        error(ofLength(59) + ",", 60);
        error("7,".repeat(29) + "0" + "7", 59);
    }

    @Says("the length of the buffer if there is none.")
    static void promise12_noErrorIn60Characters() {
        error(ofLength(60), 60);
        error("1*16,".repeat(12), 60);
        error("1*16,".repeat(11) + "10*16", 60);
    }

    @Says("The buffer is read from left to right; a character is a syntax error if no column "
        + "as a text, of any length, begins with the characters before it and this character.")
    static void promise12_aBeginningIsNoErrorThoughItDoesNotFitInto60() {
        error("7,".repeat(29) + "9*", 60);
        error("7,".repeat(29) + "77", 60);
        error("7,".repeat(28) + "77*1", 60);
    }

    @Says("The buffer is read from left to right; a character is a syntax error if no column "
        + "as a text, of any length, begins with the characters before it and this character.")
    static void promise12_theFirstOfSeveralErrors() {
        error("5x6y", 1);
        error("00,01", 1);
        error("5*17,x", 3);
    }

    @Says({"a value, 0 to 999, and perhaps \"*\" and how often it comes, 2 to 16.",
        "Numbers have no leading zeros."})
    static void promise12_valuesOf0To999() {
        error("0", 1);
        error("9", 1);
        error("10", 2);
        error("99", 2);
        error("100", 3);
        error("999", 3);
        error("1000", 3);
        error("9990", 3);
        error("9999", 3);
    }

    @Says("Numbers have no leading zeros.")
    static void promise12_leadingZeros() {
        error("00", 1);
        error("01", 1);
        error("09", 1);
        error("5,00", 3);
        error("5*0", 2);
        error("5*02", 2);
        error("0*0", 2);
        error("0*2", 3);
        error("0,0", 3);
    }

    @Says("a value, 0 to 999, and perhaps \"*\" and how often it comes, 2 to 16.")
    static void promise12_timesOf2To16() {
        error("5*2", 3);
        error("5*9", 3);
        error("5*10", 4);
        error("5*16", 4);
        error("5*17", 3);
        error("5*18", 3);
        error("5*19", 3);
        error("5*20", 3);
        error("5*90", 3);
        error("5*100", 4);
        error("5*160", 4);
    }

    @Says("a character is a syntax error if no column as a text, of any length, begins with "
        + "the characters before it and this character.")
    static void promise12_timesOf1IsABeginningAlone() {
        error("5*1", 3);
        error("5*1,", 3);
        error("5*1*", 3);
        error("5*1x", 3);
    }

    @Says("A column as a text is one or more parts with \",\" between them:")
    static void promise12_commas() {
        error("5,", 2);
        error("5,,", 2);
        error(",5", 0);
        error("5*2,", 4);
        error("5*2,,", 4);
        error("5*,", 2);
        error("5,*", 2);
        error("5**", 2);
        error("5*2*2", 3);
        error("5*2*", 3);
    }

    @Says("Finds the first syntax error of the buffer.")
    static void promise12_changesNothing() {
        twins.looks("firstError()", Columns::richWithSixStates, "5", PickedForms::firstError);
        twins.looks("firstError()", Columns::brimfulWithAll, "60", PickedForms::firstError);
        twins.looks("firstError()", () -> with("5x"), "1", PickedForms::firstError);
    }

    // ---- promise 13: load

    private static void refusesText(String text) {
        twins.refused("load() of " + text, () -> with(text), Columns.ARGUMENT,
                PickedForms::load);
    }

    @Says("Throws `IllegalArgumentException` if the buffer is not a complete column as a text")
    static void promise13_refusesAnEmptyBuffer() {
        refusesText("");
        twins.refused("a full column", Columns::brimful, Columns.ARGUMENT, PickedForms::load);
    }

    @Says("Throws `IllegalArgumentException` if the buffer is not a complete column as a text")
    static void promise13_refusesABeginning() {
        for (String text : new String[] {"5,", "5*", "5*1", "5*2,", "5,6*", "5,6*1", "5,6,"}) {
            refusesText(text);
        }
        twins.refused("60 characters with a comma at the end", Columns::brimfulWithAll,
                Columns.ARGUMENT, PickedForms::load);
    }

    @Says("Throws `IllegalArgumentException` if the buffer is not a complete column as a text")
    static void promise13_refusesASyntaxError() {
        for (String text : new String[] {"x", "*", ",", "5x", "5x,6", "00", "01", "1000", "5*0",
            "5*1,6", "5*17", "5*20", "5,,6", "5*2*2", "-5", "5*02"}) {
            refusesText(text);
        }
    }

    private static PickedForms richWith(String text) {
        PickedForms x = Columns.richWithSixStates();
        x.clearBuffer();
        Columns.appendAll(x, text);
        return x;
    }

    @Says("A call that throws an exception changes nothing.")
    static void promise13_aRefusedTextStays() {
        twins.refused("load()", () -> richWith("5,"), Columns.ARGUMENT, PickedForms::load);
        twins.refused("load()", () -> richWith("1,2,3,x"), Columns.ARGUMENT, PickedForms::load);
        PickedForms x = with("5,");
        check.same("load()", Check.answer(x::load), "throws.IllegalArgumentException");
        x.append('6');
        check.same("load() of the text with one more", x.load(), 2);
        check.same("values", Columns.values(x), "5,6");
    }

    @Says({"A column as a text is one or more parts with \",\" between them:",
        "Returns how many are written."})
    static void promise13_letsInOnePart() {
        PickedForms x = with("0");
        check.same("load()", x.load(), 1);
        check.same("values", Columns.values(x), "0");
        check.same("load() of the greatest", Columns.loaded(x, "999"), 1);
        check.same("values", Columns.values(x), "0,999");
    }

    @Says("a value, 0 to 999, and perhaps \"*\" and how often it comes, 2 to 16.")
    static void promise13_writes2To16TimesAValue() {
        for (int times = 2; times <= 16; times++) {
            PickedForms x = new PickedForms();
            check.same("load()", Columns.loaded(x, "999*" + times), times);
            check.same("values", x.count(0), times);
            check.same("sum", x.count(7), 999 * times);
        }
    }

    @Says("Writes the values that the buffer tells, one after the other, as write() does, "
        + "up to the first one for which it would throw an exception, and clears the buffer.")
    static void promise13_writesATextOf60Characters() {
        PickedForms x = new PickedForms();
        check.same("load()", Columns.loaded(x, "1*16,".repeat(11) + "10*16"), 192);
        check.same("lengths", Columns.lengths(x),
                "16 16 16 16 16 16 16 16 16 16 16 16 +0");
        check.same("the last part", x.block(11, 4), 10);
        PickedForms y = new PickedForms();
        check.same("load() of 30 parts", Columns.loaded(y, "7,".repeat(29) + "77"), 30);
        check.same("the last value", y.value(29, 0), 77);
    }

    @Says("Writes the values that the buffer tells, one after the other, as write() does, "
        + "up to the first one for which it would throw an exception, and clears the buffer.")
    static void promise13_closesAsWriteDoes() {
        PickedForms x = new PickedForms();
        x.set(1, 2);
        check.same("load()", Columns.loaded(x, "1,2,3*3"), 5);
        check.same("lengths", Columns.lengths(x), "2 2 +1");
        PickedForms y = Columns.of(1, 2, 3, 4, 5);
        y.set(1, 3);
        Columns.loaded(y, "6,7");
        check.same("lengths where the tail is longer than setting 1", Columns.lengths(y),
                "6 +1");
        check.same("blocks written anew", y.count(5), 1);
    }

    private static PickedForms elevenBlocks() {
        PickedForms x = Columns.twelveShort();
        x.drop(0);
        x.set(1, 2);
        return x;
    }

    @Says("up to the first one for which it would throw an exception")
    static void promise13_stopsWhereWriteWouldThrow() {
        PickedForms x = elevenBlocks();
        check.same("load()", Columns.loaded(x, "1,2,3,4,5"), 3);
        check.same("lengths", Columns.lengths(x), "1 1 1 1 1 1 1 1 1 1 1 2 +1");
        check.same("the last value", x.value(x.count(0) - 1, 0), 3);
        check.same("the buffer", x.clearBuffer(), 0);
    }

    @Says("up to the first one for which it would throw an exception")
    static void promise13_stopsInsideOfAPart() {
        PickedForms x = elevenBlocks();
        check.same("load()", Columns.loaded(x, "7*16"), 3);
        check.same("values", x.count(0), 14);
        PickedForms y = Columns.full();
        check.same("load() of 16 into a tail for 15", Columns.loaded(y, "7*16"), 15);
        check.same("values", y.count(0), 207);
    }

    @Says("up to the first one for which it would throw an exception")
    static void promise13_letsInJustWhatFits() {
        PickedForms x = Columns.full();
        check.same("load() of 15 into a tail for 15", Columns.loaded(x, "7*15"), 15);
        check.same("values", x.count(0), 207);
    }

    private static PickedForms brimfulWith(String text) {
        PickedForms x = Columns.brimful();
        Columns.settle(x);
        Columns.appendAll(x, text);
        return x;
    }

    @Says("Undoable, as one call, also if none is written.")
    static void promise13_noneIsWritten() {
        PickedForms x = brimfulWith("5*3");
        int saved = x.count(8);
        check.same("load()", x.load(), 0);
        check.same("the buffer is cleared", x.clearBuffer(), 0);
        check.same("a state is saved", x.count(8), saved + 1);
        check.same("values", x.count(0), 207);
        twins.undoable("load()", () -> brimfulWith("5*3"), PickedForms::load);
    }

    @Says("Undoable, as one call, also if none is written.")
    static void promise13_isUndoneAsOneCall() {
        twins.undoable("load() of one", () -> with("5"), PickedForms::load);
        twins.undoable("load() of 192", () -> with("1*16,".repeat(11) + "10*16"),
                PickedForms::load);
        twins.undoable("load()", Columns::rich, PickedForms::load);
        PickedForms x = Columns.rich();
        x.load();
        x.undo();
        check.same("undo() does not bring the text back", x.clearBuffer(), 0);
    }

    // ---- promise 14: keep

    @Says("Returns how many values the column has.")
    static void promise14_ofTheEmptyAndTheFullColumn() {
        check.same("keep() without values", new PickedForms().keep(), 0);
        check.same("keep() of 207 values", Columns.brimful().keep(), 207);
    }

    @Says("Takes a snapshot of the state (of all that undo() would restore), in place of the "
        + "one that was.")
    static void promise14_takesThePlaceOfTheOneThatWas() {
        PickedForms x = Columns.of(1);
        x.keep();
        x.write(2);
        check.same("keep()", x.keep(), 2);
        x.write(3);
        check.same("goBack()", x.goBack(), 2);
        check.same("values", Columns.values(x), "1,2");
    }

    @Says("Takes a snapshot of the state (of all that undo() would restore), in place of the "
        + "one that was.")
    static void promise14_keepsWhatUndoWouldRestore() {
        PickedForms x = Columns.rich();
        x.set(0, 3);
        x.set(1, 4);
        x.set(2, 5);
        x.keep();
        String before = stateWithoutSaved(x);
        x.change(1, 0);
        x.change(8, 500);
        x.set(0, 1);
        x.set(1, 2);
        x.set(2, 1);
        x.drop(0);
        x.write(1);
        x.goBack();
        check.same("the state", stateWithoutSaved(x), before);
    }

    private static String stateWithoutSaved(PickedForms x) {
        StringBuilder all = new StringBuilder(Columns.lengths(x) + " " + Columns.values(x));
        for (int what = 0; what <= 7; what++) {
            all.append(' ').append(x.count(what));
        }
        for (int setting = 0; setting <= 2; setting++) {
            all.append(' ').append(x.setting(setting));
        }
        for (int block = 0; block < x.count(1); block++) {
            all.append(' ').append(x.block(block, 0)).append('/').append(x.block(block, 3));
        }
        return all.toString();
    }

    @Says("Takes a snapshot of the state (of all that undo() would restore), in place of the "
        + "one that was.")
    static void promise14_keepsNeitherTheBufferNorTheSavedStates() {
        PickedForms x = with("5*2");
        x.write(1);
        x.keep();
        x.append('x');
        x.write(2);
        x.goBack();
        check.same("saved states", x.count(8), 3);
        check.same("the buffer", x.clearBuffer(), 4);
    }

    @Says("Each method that is marked \"undoable\" and does not throw an exception saves the "
        + "state from before it")
    static void promise14_savesNoStateAndIsNotUndone() {
        PickedForms x = Columns.of(1, 2);
        x.keep();
        check.same("saved states", x.count(8), 2);
        check.same("undo()", x.undo(), 1);
        check.same("values", Columns.values(x), "1");
        check.same("the snapshot is still there", x.goBack(), 2);
    }

    // ---- promise 15: goBack

    @Says("Throws `IllegalStateException` if there is no snapshot")
    static void promise15_refusesWithoutASnapshot() {
        twins.refused("a new object", PickedForms::new, Columns.STATE, PickedForms::goBack);
        twins.refused("a full column", Columns::brimful, Columns.STATE, PickedForms::goBack);
        twins.refused("a text", () -> with("5*3"), Columns.STATE, PickedForms::goBack);
    }

    @Says("Returns how many values the column has then.")
    static void promise15_goesBackToTheEmptyColumn() {
        PickedForms x = new PickedForms();
        x.keep();
        Columns.loaded(x, "5*16,6");
        check.same("goBack()", x.goBack(), 0);
        check.same("lengths", Columns.lengths(x), "+0");
        check.same("blocks written anew", x.count(5), 0);
    }

    @Says("Returns how many values the column has then.")
    static void promise15_goesBackToTheFullColumn() {
        PickedForms x = Columns.brimful();
        x.keep();
        for (int i = 0; i < 12; i++) {
            x.drop(0);
        }
        check.same("goBack()", x.goBack(), 207);
        twins.refused("write()", TextsEdgesTest::backToBrimful, Columns.STATE, y -> y.write(5));
    }

    private static PickedForms backToBrimful() {
        PickedForms x = Columns.brimful();
        x.keep();
        x.drop(0);
        x.goBack();
        return x;
    }

    @Says("Goes back to the snapshot, which stays.")
    static void promise15_theSnapshotStays() {
        PickedForms x = Columns.of(1);
        x.keep();
        for (int i = 0; i < 3; i++) {
            x.write(2);
            check.same("goBack()", x.goBack(), 1);
            check.same("values", Columns.values(x), "1");
        }
        x.change(0, 9);
        check.same("a change behind goBack() leaves the snapshot", x.goBack(), 1);
        check.same("values", Columns.values(x), "1");
    }

    @Says({"Undoable.", "(also if it changes nothing)"})
    static void promise15_isUndone() {
        twins.undoable("goBack()", Columns::rich, PickedForms::goBack);
        PickedForms x = Columns.of(1);
        x.keep();
        check.same("goBack() to what it is", x.goBack(), 1);
        check.same("saves a state", x.count(8), 2);
        x.write(2);
        x.goBack();
        check.same("undo() of goBack()", x.undo(), 3);
        check.same("values", Columns.values(x), "1,2");
    }

    @Says("At most 6 states are saved; the oldest one is dropped first.")
    static void promise15_theOldestStateFallsOut() {
        PickedForms x = new PickedForms();
        x.keep();
        Columns.writeAll(x, 1, 2, 3, 4, 5, 6);
        x.goBack();
        check.same("saved states", x.count(8), 6);
        for (int left = 5; left >= 0; left--) {
            check.same("undo()", x.undo(), left);
        }
        check.same("the state with no value is dropped", Columns.values(x), "1");
    }

    // ---- promise 16: undo

    @Says("Throws `IllegalStateException` if there is none")
    static void promise16_refusesWithoutASavedState() {
        twins.refused("a new object", PickedForms::new, Columns.STATE, PickedForms::undo);
        twins.refused("a text and a snapshot", TextsEdgesTest::textAndSnapshot, Columns.STATE,
                PickedForms::undo);
        twins.refused("all are undone", TextsEdgesTest::undoneToTheEnd, Columns.STATE,
                PickedForms::undo);
    }

    private static PickedForms textAndSnapshot() {
        PickedForms x = with("5*3");
        x.keep();
        return x;
    }

    private static PickedForms undoneToTheEnd() {
        PickedForms x = Columns.of(1, 2, 3, 4, 5, 6, 7, 8);
        for (int i = 0; i < 6; i++) {
            x.undo();
        }
        return x;
    }

    @Says({"Restores the latest saved state, and drops it.",
        "Returns how many saved states are left."})
    static void promise16_theOnlySavedState() {
        PickedForms x = Columns.of(1);
        check.same("undo()", x.undo(), 0);
        check.same("the state", Twins.trace(x), Twins.trace(new PickedForms()));
    }

    @Says("At most 6 states are saved; the oldest one is dropped first.")
    static void promise16_sixStates() {
        PickedForms x = Columns.of(1, 2, 3, 4, 5, 6);
        check.same("saved states", x.count(8), 6);
        for (int left = 5; left >= 0; left--) {
            check.same("undo()", x.undo(), left);
            check.same("values", x.count(0), left);
        }
        check.same("all are undone", x.count(0), 0);
    }

    @Says("At most 6 states are saved; the oldest one is dropped first.")
    static void promise16_theSeventhStateDropsTheOldest() {
        PickedForms x = Columns.of(1, 2, 3, 4, 5, 6, 7);
        check.same("saved states", x.count(8), 6);
        for (int left = 5; left >= 0; left--) {
            check.same("undo()", x.undo(), left);
        }
        check.same("the state without values is dropped", Columns.values(x), "1");
        check.same("undo()", Check.answer(x::undo), "throws.IllegalStateException");
        check.same("values", Columns.values(x), "1");
    }

    @Says("At most 6 states are saved; the oldest one is dropped first.")
    static void promise16_manyStatesDropTheOldest() {
        for (int written = 8; written <= 15; written++) {
            PickedForms x = new PickedForms();
            for (int i = 0; i < written; i++) {
                x.write(i);
            }
            for (int left = 5; left >= 0; left--) {
                check.same("undo()", x.undo(), left);
                check.same("values", x.count(0), written - 6 + left);
            }
            check.same("undo()", Check.answer(x::undo), "throws.IllegalStateException");
        }
    }

    @Says("Restores the latest saved state, and drops it.")
    static void promise16_isNotUndone() {
        PickedForms x = Columns.of(1, 2, 3);
        x.undo();
        x.undo();
        check.same("values", Columns.values(x), "1");
        x.write(9);
        check.same("undo()", x.undo(), 1);
        check.same("values", Columns.values(x), "1");
        check.same("undo()", x.undo(), 0);
        check.same("values", x.count(0), 0);
    }

    @Says("all, also what is counted so far, but the buffer, the snapshot and the saved states.")
    static void promise16_restoresWhatIsCounted() {
        PickedForms x = Columns.rich();
        check.same("changed in place", x.count(4), 1);
        check.same("written anew", x.count(5), 5);
        x.change(0, 2);
        x.change(8, 500);
        check.same("changed in place", x.count(4), 2);
        check.same("written anew", x.count(5), 6);
        x.undo();
        check.same("written anew, undone", x.count(5), 5);
        x.undo();
        check.same("changed in place, undone", x.count(4), 1);
    }

    @Says("all, also what is counted so far, but the buffer, the snapshot and the saved states.")
    static void promise16_leavesTheBuffer() {
        PickedForms x = Columns.of(1, 2);
        Columns.appendAll(x, "5,6");
        x.undo();
        check.same("the buffer", x.load(), 2);
        check.same("values", Columns.values(x), "1,5,6");
    }

    @Says("all, also what is counted so far, but the buffer, the snapshot and the saved states.")
    static void promise16_leavesTheSnapshot() {
        PickedForms x = Columns.of(1, 2);
        x.keep();
        x.undo();
        x.undo();
        check.same("goBack()", x.goBack(), 2);
        x.undo();
        check.same("goBack() once more", x.goBack(), 2);
    }

    @Says("A call that throws an exception changes nothing.")
    static void promise16_refusedCallsSaveNoState() {
        PickedForms x = Columns.of(1, 2, 3, 4, 5, 6);
        Check.answer(() -> x.write(1000));
        Check.answer(() -> x.change(6, 1));
        Check.answer(() -> x.anew(0));
        Check.answer(() -> x.join(0));
        Check.answer(() -> x.split(0, 1));
        Check.answer(() -> x.drop(0));
        Check.answer(() -> x.set(3, 1));
        Check.answer(x::load);
        Check.answer(x::goBack);
        check.same("saved states", x.count(8), 6);
        for (int left = 5; left >= 0; left--) {
            x.undo();
        }
        check.same("the oldest is the new object", Twins.trace(x),
                Twins.trace(new PickedForms()));
    }

    @Says("Each method that is marked \"undoable\" and does not throw an exception saves the "
        + "state from before it (also if it changes nothing):")
    static void promise16_looksSaveNoState() {
        PickedForms x = Columns.rich();
        x.value(0, 3);
        x.block(0, 8);
        x.size(0, 4);
        x.bit(0, 0);
        x.count(6);
        x.setting(0);
        x.match(0, 500, 2);
        x.ifChanged(0, 1, 1);
        x.bestSplit(0);
        x.least(2);
        x.sizeShare();
        x.meanBits();
        x.digest();
        x.firstError();
        check.same("the state", Twins.trace(x), Twins.trace(Columns.rich()));
    }
}
