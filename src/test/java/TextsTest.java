/** Promises 10 to 16: append, clearBuffer, firstError, load, keep, goBack, undo. */
final class TextsTest {

    private static final Check check = new Check("TextsTest");

    public static void main(String[] args) {
        append();
        clearBuffer();
        firstError();
        load();
        loadIsRefused();
        loadStops();
        keepAndGoBack();
        undo();
        undoRestoresAll();
        check.end();
    }

    private static void append() {
        PickedForms x = new PickedForms();
        check.refuses(x, "append(32)", Columns.ARGUMENT, () -> x.append(32));
        check.refuses(x, "append(127)", Columns.ARGUMENT, () -> x.append(127));
        check.refuses(x, "append(-1)", Columns.ARGUMENT, () -> x.append(-1));
        check.same("append(33)", x.append(33), 1);
        check.same("append(126)", x.append(126), 2);
        for (int i = 3; i <= 60; i++) {
            check.same("append(49)", x.append(49), i);
        }
        check.refuses(x, "append() beyond 60", Columns.STATE, () -> x.append(49));
        check.refuses(x, "append(): the code first", Columns.ARGUMENT, () -> x.append(32));
        check.same("append() saves no state", x.count(8), 0);
    }

    private static void clearBuffer() {
        PickedForms x = new PickedForms();
        Columns.appendAll(x, "5,x");
        check.same("clearBuffer()", x.clearBuffer(), 3);
        check.same("clearBuffer() of none", x.clearBuffer(), 0);
        check.same("append() behind clearBuffer()", x.append(53), 1);
        check.same("clearBuffer() saves no state", x.count(8), 0);
        check.same("the buffer begins anew", x.load(), 1);
    }

    private static void firstError() {
        error("", 0);
        error("0", 1);
        error("7", 1);
        error("999", 3);
        error("1000", 3);
        error("00", 1);
        error("01", 1);
        error("0*2", 3);
        error("a", 0);
        error("*", 0);
        error(",", 0);
        error("-", 0);
        error("12a", 2);
        error("12.", 2);
        error("5,", 2);
        error("5,,", 2);
        error("5,*", 2);
        error("5,01", 3);
        error("5*", 2);
        error("5**", 2);
        error("5*,", 2);
        error("5*0", 2);
        error("5*02", 2);
        error("5*1", 3);
        error("5*1,", 3);
        error("5*1*", 3);
        error("5*10", 4);
        error("5*16", 4);
        error("5*17", 3);
        error("5*160", 4);
        error("5*2", 3);
        error("5*9", 3);
        error("5*20", 3);
        error("5*2*", 3);
        error("5*2,", 4);
        error("5*3,7,7,9", 9);
        error("5*3;7,7,9", 3);
        error("x,y,z", 0);
        error("/", 0);
        error("5/", 1);
        error("5:", 1);
        error("5*/", 2);
        error("5*:", 2);
        error("5*1/", 3);
        error("!", 0);
        error("~", 0);
    }

    private static void error(String text, int due) {
        PickedForms x = new PickedForms();
        Columns.appendAll(x, text);
        check.same("firstError() of " + text, x.firstError(), due);
        check.same("firstError() keeps the buffer", x.clearBuffer(), text.length());
    }

    private static void load() {
        PickedForms x = Columns.of(1);
        check.same("load()", Columns.loaded(x, "5*3,7,7,9"), 6);
        check.same("load(): values", Columns.values(x), "1,5,5,5,7,7,9");
        check.same("load() clears the buffer", x.clearBuffer(), 0);
        check.same("load() is one saved state", x.count(8), 2);
        check.same("load() closes as write() does", Columns.loaded(x, "0*16"), 16);
        check.same("load(): lengths", Columns.lengths(x), "16 +7");
        x.undo();
        check.same("load(): undo()", Columns.lengths(x), "+7");
        x.undo();
        check.same("load(): undo()", Columns.values(x), "1");

        PickedForms y = new PickedForms();
        check.same("load() of digits", Columns.loaded(y, "0,10,999,12*2,345*10,6*9"), 24);
        check.same("load() of digits: the values", y.value(3, 0), 12);
        check.same("load() of digits: the values", y.value(4, 0), 12);
        check.same("load() of digits: the values", y.value(5, 0), 345);
        check.same("load() of digits: the values", y.value(14, 0), 345);
        check.same("load() of digits: the values", y.value(15, 0), 6);
        check.same("load() of digits: the sum", y.count(7), 0 + 10 + 999 + 24 + 3450 + 54);

        PickedForms z = new PickedForms();
        check.same("load() of 30 parts",
                Columns.loaded(z, "1,2,3,4,5,6,7,8,9,0,1,2,3,4,5,6,7,8,9,0,1,2,3,4,5,6,7,8,9,10"), 30);
        check.same("load() of 30 parts: the last", z.value(29, 0), 10);
    }

    private static void loadIsRefused() {
        for (String text : new String[] {"", "5,", "5*", "5*1", "5*1,2", "00", "a", "5,6x", "1000",
                "5*17", "5*2*2", "5a,6"}) {
            PickedForms x = Columns.of(3);
            Columns.appendAll(x, text);
            check.refuses(x, "load() of " + text, Columns.ARGUMENT, x::load);
        }
    }

    private static void loadStops() {
        PickedForms x = Columns.full();
        check.same("load() into the last tail", Columns.loaded(x, "3*9,4*9"), 15);
        check.same("load() stops: lengths", x.count(0), 207);
        check.same("load() stops: last value", x.value(206, 0), 4);
        int saved = x.count(8);
        check.same("load() of none", Columns.loaded(x, "5"), 0);
        check.same("load() of none clears the buffer", x.clearBuffer(), 0);
        check.same("load() of none saves a state", x.count(8), saved + 1);
        x.undo();
        check.same("load() of none: undo()", x.count(0), 207);
        x.undo();
        check.same("load(): undo()", x.count(0), 192);
    }

    private static void keepAndGoBack() {
        PickedForms x = Columns.block(100, 101, 103, 102);
        x.write(9);
        x.set(1, 5);
        check.same("keep()", x.keep(), 5);
        check.same("keep() saves no state", x.count(8), 6);
        long kept = x.digest();
        x.change(0, 900);
        x.set(2, 1);
        x.drop(0);
        check.same("goBack()", x.goBack(), 5);
        check.same("goBack(): all is as it was", x.digest(), kept);
        check.same("goBack() saves a state", x.undo(), 5);
        check.same("goBack() is undone", Columns.values(x), "9");
        check.same("goBack() is undone: settings", x.setting(2), 1);
        check.same("goBack() again", x.goBack(), 5);
        check.same("goBack() twice", x.goBack(), 5);
        x.write(1);
        check.same("keep() in place of the one that was", x.keep(), 6);
        x.drop(0);
        check.same("goBack() to the new one", x.goBack(), 6);
        check.same("goBack() to the new one: values", Columns.values(x), "100,101,103,102,9,1");

        PickedForms y = new PickedForms();
        check.refuses(y, "goBack() without a snapshot", Columns.STATE, y::goBack);
        check.same("keep() of nothing", y.keep(), 0);
        y.write(1);
        y.undo();
        y.write(2);
        check.same("the snapshot is not undone", y.goBack(), 0);
        Columns.appendAll(y, "12");
        y.goBack();
        check.same("the buffer does not go back", y.clearBuffer(), 2);
    }

    private static void undo() {
        PickedForms x = new PickedForms();
        check.refuses(x, "undo() of none", Columns.STATE, x::undo);
        for (int i = 1; i <= 9; i++) {
            x.write(i);
            check.same("saved states", x.count(8), Math.min(i, 6));
        }
        for (int left = 5; left >= 0; left--) {
            check.same("undo()", x.undo(), left);
            check.same("undo(): values", x.count(0), left + 3);
        }
        check.same("undo(): the oldest are dropped", Columns.values(x), "1,2,3");
        check.refuses(x, "undo() of none", Columns.STATE, x::undo);
        for (int i = 4; i <= 7; i++) {
            x.write(i);
        }
        check.same("undo() in the ring", x.undo(), 3);
        x.write(70);
        x.write(80);
        check.same("undo() in the ring", x.undo(), 4);
        check.same("undo() in the ring: values", Columns.values(x), "1,2,3,4,5,6,70");
        x.set(0, 16);
        check.same("what changes nothing saves a state", x.count(8), 5);
    }

    private static void undoRestoresAll() {
        PickedForms x = Columns.block(100, 101, 103, 102);
        Columns.addBlock(x, 1, 500);
        Columns.appendAll(x, "1,2");
        x.keep();
        x.set(0, 16);
        x.undo();
        long before = x.digest();
        Check.Call[] calls = {() -> x.change(0, 101), () -> x.change(0, 900), () -> x.anew(0),
            () -> x.join(0), () -> x.split(0, 2), () -> x.drop(0), () -> x.set(0, 3),
            () -> x.write(5), x::goBack};
        for (int i = 0; i < calls.length; i++) {
            calls[i].run();
            check.same("call " + i + " saves one state", x.count(8), 6);
            check.same("undo() of call " + i, x.undo(), 5);
            check.same("undo() of call " + i + " restores all", x.digest(), before);
        }
        x.write(1);
        x.close();
        x.undo();
        check.same("undo() of close()", Columns.lengths(x), "4 2 +1");
        check.same("undo() keeps the buffer", x.load(), 2);
    }
}
