/** Promises 1 to 4: a new object, write, close, change. */
final class WritingTest {

    private static final Check check = new Check("WritingTest");

    public static void main(String[] args) {
        newObject();
        write();
        writeCloses();
        writeIsRefused();
        close();
        changeInTail();
        changeInPlace();
        changeAnew();
        changeKeepsForbiddenForm();
        changeIsRefused();
        check.end();
    }

    private static void newObject() {
        PickedForms x = new PickedForms();
        for (int what = 0; what <= 8; what++) {
            check.same("new: count(" + what + ")", x.count(what), 0);
        }
        check.same("new: setting(0)", x.setting(0), 16);
        check.same("new: setting(1)", x.setting(1), 16);
        check.same("new: setting(2)", x.setting(2), 31);
        check.same("new: clearBuffer()", x.clearBuffer(), 0);
        check.same("new: firstError()", x.firstError(), 0);
        check.refuses(x, "new: goBack()", Columns.STATE, x::goBack);
        check.refuses(x, "new: undo()", Columns.STATE, x::undo);
        check.refuses(x, "new: value(0, 0)", Columns.INDEX, () -> x.value(0, 0));
        check.refuses(x, "new: block(0, 0)", Columns.INDEX, () -> x.block(0, 0));
        check.same("NONE", PickedForms.NONE, -1);
    }

    private static void write() {
        PickedForms x = new PickedForms();
        check.same("write(0)", x.write(0), 1);
        check.same("write(999)", x.write(999), 2);
        check.same("write: values", Columns.values(x), "0,999");
        check.same("write: lengths", Columns.lengths(x), "+2");
        check.same("write: saved states", x.count(8), 2);
        check.same("write: undo()", x.undo(), 1);
        check.same("write: values behind undo()", Columns.values(x), "0");
    }

    private static void writeCloses() {
        PickedForms x = new PickedForms();
        for (int i = 1; i <= 15; i++) {
            check.same("write closes at 16", x.write(i), i);
        }
        check.same("write: 15 stay in the tail", Columns.lengths(x), "+15");
        check.same("write: the 16th", x.write(16), 16);
        check.same("write: 16 are closed", Columns.lengths(x), "16 +0");
        check.same("write: written anew", x.count(5), 1);
        check.same("write: one state for write and closing", x.count(8), 6);

        PickedForms y = Columns.of(1, 2, 3, 4, 5);
        y.set(1, 3);
        check.same("set(1) closes nothing", Columns.lengths(y), "+5");
        check.same("write behind set(1)", y.write(6), 6);
        check.same("write closes a tail that is longer than the setting", Columns.lengths(y), "6 +0");
        Columns.writeAll(y, 7, 8);
        check.same("write below the setting", Columns.lengths(y), "6 +2");
        y.write(9);
        check.same("write at the setting", Columns.lengths(y), "6 3 +0");
    }

    private static void writeIsRefused() {
        PickedForms x = Columns.of(1);
        check.refuses(x, "write(-1)", Columns.ARGUMENT, () -> x.write(-1));
        check.refuses(x, "write(1000)", Columns.ARGUMENT, () -> x.write(1000));
        check.refuses(x, "write(least int)", Columns.ARGUMENT, () -> x.write(Integer.MIN_VALUE));

        PickedForms y = Columns.full();
        check.same("full: blocks", y.count(1), 12);
        for (int i = 1; i <= 15; i++) {
            check.same("write into the last tail", y.write(7), 192 + i);
        }
        check.refuses(y, "write where the tail would be closed", Columns.STATE, () -> y.write(7));
        check.refuses(y, "write: the argument first", Columns.ARGUMENT, () -> y.write(1000));
        y.drop(11);
        check.same("write behind drop()", y.write(7), 192);
        check.same("write closes behind drop()", Columns.lengths(y),
                "16 16 16 16 16 16 16 16 16 16 16 16 +0");

        PickedForms z = Columns.twelveShort();
        z.set(1, 2);
        check.same("write with 12 blocks", z.write(1), 13);
        check.refuses(z, "write with 12 blocks at setting 1", Columns.STATE, () -> z.write(1));
    }

    private static void close() {
        PickedForms x = new PickedForms();
        check.refuses(x, "close() without values", Columns.STATE, x::close);
        x.write(5);
        check.same("close() of one value", x.close(), 0);
        check.refuses(x, "close() without a tail", Columns.STATE, x::close);
        Columns.writeAll(x, 100, 101, 103, 102);
        check.same("close(): packed", x.close(), 1);
        Columns.writeAll(x, 3, 3, 3, 3, 3, 900, 900);
        check.same("close(): runs", x.close(), 2);
        Columns.writeAll(x, 5, 5, 5, 7, 7, 9);
        check.same("close(): deltas", x.close(), 3);
        Columns.writeAll(x, 0, 999, 0, 999, 0);
        check.same("close(): listed", x.close(), 4);
        check.same("close(): lengths", Columns.lengths(x), "1 4 7 6 5 +0");
        check.same("close(): written anew", x.count(5), 5);
        x.undo();
        check.same("close(): lengths behind undo()", Columns.lengths(x), "1 4 7 6 +5");

        PickedForms y = Columns.twelveShort();
        y.write(1);
        check.refuses(y, "close() with 12 blocks", Columns.STATE, y::close);
    }

    private static void changeInTail() {
        PickedForms x = Columns.block(1, 2);
        Columns.writeAll(x, 3, 4);
        check.same("change() in the tail", x.change(3, 999), 0);
        check.same("change() in the tail: values", Columns.values(x), "1,2,3,999");
        check.same("change() in the tail: in place so far", x.count(4), 0);
        check.same("change() in the tail: anew so far", x.count(5), 1);
        x.undo();
        check.same("change() in the tail: undo()", Columns.values(x), "1,2,3,4");
    }

    private static void changeInPlace() {
        PickedForms x = Columns.block(100, 101, 103, 102);
        check.same("change() in place", x.change(1, 102), 1);
        check.same("change() in place: values", Columns.values(x), "100,102,103,102");
        check.same("change() in place, just the room", x.block(0, 2), 22);
        check.same("change() in place, less", x.change(2, 100), 1);
        check.same("change() in place, less", x.change(1, 100), 1);
        check.same("change() in place, less", x.change(3, 100), 1);
        check.same("change() in place: the form stays", x.block(0, 0), 1);
        check.same("change() in place: its bits", x.block(0, 2), 14);
        check.same("change() in place: the room stays", x.block(0, 3), 22);
        check.same("change() in place: bits that are not used", x.count(6), 8);
        check.same("change() in place: back into the room", x.change(0, 103), 1);
        check.same("change() in place so far", x.count(4), 5);
        check.same("change() in place to what it was", x.change(0, 103), 1);
        check.same("change() to what it was counts", x.count(4), 6);
        check.same("change(): anew so far", x.count(5), 1);
        check.same("change(): saved states", x.count(8), 6);
    }

    private static void changeAnew() {
        PickedForms x = Columns.block(100, 101, 103, 102);
        check.same("change() one bit too wide", x.change(2, 104), 2);
        check.same("change() anew: form", x.block(0, 0), 3);
        check.same("change() anew: room", x.block(0, 3), 23);
        check.same("change() anew", x.change(0, 900), 2);
        check.same("change() anew: values", Columns.values(x), "900,101,104,102");
        check.same("change() anew: form", x.block(0, 0), 0);
        check.same("change() anew: room", x.block(0, 3), 40);
        check.same("change() anew so far", x.count(5), 3);
        check.same("change() in place so far", x.count(4), 0);

        PickedForms y = Columns.block(3, 3, 3, 3, 3, 900, 900);
        Columns.addBlock(y, 7);
        check.same("change() of a run's edge", y.change(5, 3), 1);
        check.same("change() inside a run", y.change(2, 900), 2);
        check.same("change() inside a run: form", y.block(0, 0), 4);
        check.same("change() leaves the other block", y.value(7, 0), 7);
    }

    private static void changeKeepsForbiddenForm() {
        PickedForms x = Columns.block(100, 101, 103, 102);
        x.set(2, 1);
        check.same("change() in a form that is no longer allowed", x.change(0, 101), 1);
        check.same("change() keeps that form", x.block(0, 0), 1);
        check.same("change() beyond the room", x.change(0, 99), 2);
        check.same("change() takes an allowed form", x.block(0, 0), 0);
    }

    private static void changeIsRefused() {
        PickedForms x = Columns.block(1, 2);
        x.write(3);
        check.refuses(x, "change(-1, 5)", Columns.INDEX, () -> x.change(-1, 5));
        check.refuses(x, "change(3, 5)", Columns.INDEX, () -> x.change(3, 5));
        check.refuses(x, "change(3, 1000)", Columns.INDEX, () -> x.change(3, 1000));
        check.refuses(x, "change(2, 1000)", Columns.ARGUMENT, () -> x.change(2, 1000));
        check.refuses(x, "change(0, -1)", Columns.ARGUMENT, () -> x.change(0, -1));
        check.refuses(x, "change(greatest int, 5)", Columns.INDEX,
                () -> x.change(Integer.MAX_VALUE, 5));
    }
}
