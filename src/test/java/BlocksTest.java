/** Promises 5 to 9: anew, join, split, drop, set. */
final class BlocksTest {

    private static final Check check = new Check("BlocksTest");

    public static void main(String[] args) {
        anew();
        anewBySample();
        join();
        split();
        neighboursStay();
        drop();
        set();
        setIsRefused();
        check.end();
    }

    private static void anew() {
        PickedForms x = Columns.block(100, 101, 103, 102);
        check.same("anew() of what stands", x.anew(0), 0);
        check.same("anew(): written anew", x.count(5), 2);
        x.change(1, 100);
        x.change(2, 100);
        x.change(3, 100);
        check.same("anew() of fewer bits", x.anew(0), 8);
        check.same("anew(): room", x.block(0, 3), 14);
        check.same("anew(): form", x.block(0, 0), 1);
        check.same("anew(): values", Columns.values(x), "100,100,100,100");
        check.same("anew(): written anew", x.count(5), 3);
        x.undo();
        check.same("anew(): room behind undo()", x.block(0, 3), 22);
        check.refuses(x, "anew(-1)", Columns.INDEX, () -> x.anew(-1));
        check.refuses(x, "anew(1)", Columns.INDEX, () -> x.anew(1));
    }

    private static void anewBySample() {
        PickedForms x = Columns.block(7, 7, 1, 999, 3, 500, 20, 8);
        check.same("sample of all: plain", x.block(0, 0), 0);
        x.set(0, 2);
        check.same("sample of 2: packed takes more", x.anew(0), -14);
        check.same("sample of 2: form", x.block(0, 0), 1);
        check.same("sample of 2: room of all values", x.block(0, 3), 94);
        x.set(0, 3);
        check.same("sample of 3: deltas", x.anew(0), 3);
        check.same("sample of 3: form", x.block(0, 0), 3);
        x.set(0, 4);
        check.same("sample of 4", x.anew(0), 11);
        check.same("sample of 4: form", x.block(0, 0), 0);
        x.set(0, 1);
        check.same("sample of 1 is plain", x.anew(0), 0);

        PickedForms y = Columns.block(4, 4, 4);
        check.same("of several forms the lowest", y.block(0, 0), 1);
        y.set(2, 1 + 4 + 8 + 16);
        y.anew(0);
        check.same("of the allowed ones the lowest", y.block(0, 0), 2);
        y.set(2, 1 + 8 + 16);
        y.anew(0);
        check.same("of the allowed ones the lowest", y.block(0, 0), 3);
        y.set(2, 1 + 16);
        y.anew(0);
        check.same("of the allowed ones the lowest", y.block(0, 0), 4);
        y.set(2, 1);
        check.same("plain alone", y.anew(0), -16);
        check.same("plain alone", y.block(0, 0), 0);
    }

    private static void join() {
        PickedForms x = Columns.block(0, 0);
        Columns.addBlock(x, 999);
        Columns.addBlock(x, 5);
        x.write(6);
        check.same("join(0)", x.join(0), 4);
        check.same("join(0): lengths", Columns.lengths(x), "3 1 +1");
        check.same("join(0): values", Columns.values(x), "0,0,999,5,6");
        check.same("join(0): room", x.block(0, 3), 27);
        check.same("join(0): room of the next", x.block(1, 3), 10);
        check.same("join(0): written anew", x.count(5), 4);
        check.refuses(x, "join() of the last one", Columns.INDEX, () -> x.join(1));
        check.refuses(x, "join(2)", Columns.INDEX, () -> x.join(2));
        check.refuses(x, "join(-1)", Columns.INDEX, () -> x.join(-1));
        check.same("join(0) of all", x.join(0), 0);
        x.undo();
        x.undo();
        check.same("join(): lengths behind undo()", Columns.lengths(x), "2 1 1 +1");

        PickedForms y = new PickedForms();
        Columns.loaded(y, "1*9");
        y.close();
        Columns.loaded(y, "2*7");
        y.close();
        Columns.loaded(y, "3*10");
        y.close();
        check.refuses(y, "join() of 17", Columns.STATE, () -> y.join(1));
        check.same("join() of 16", y.join(0), 2);
        check.same("join() of 16: lengths", Columns.lengths(y), "16 10 +0");
        check.refuses(y, "join() of 26", Columns.STATE, () -> y.join(0));
    }

    private static void split() {
        PickedForms x = Columns.block(1, 1, 1, 1, 900, 900, 900, 900);
        Columns.addBlock(x, 5, 6);
        check.same("split(0, 4)", x.split(0, 4), -7);
        check.same("split(0, 4): lengths", Columns.lengths(x), "4 4 2 +0");
        check.same("split(0, 4): values", Columns.values(x), "1,1,1,1,900,900,900,900,5,6");
        check.same("split(0, 4): first form", x.block(0, 0), 1);
        check.same("split(0, 4): rooms", x.block(0, 3) + x.block(1, 3), 28);
        check.same("split(0, 4): the next block", x.block(2, 4), 5);
        check.same("split(0, 4): written anew", x.count(5), 4);
        check.refuses(x, "split(0, 0)", Columns.INDEX, () -> x.split(0, 0));
        check.refuses(x, "split(0, -1)", Columns.INDEX, () -> x.split(0, -1));
        check.refuses(x, "split(0, 4) of 4", Columns.INDEX, () -> x.split(0, 4));
        check.refuses(x, "split(3, 1)", Columns.INDEX, () -> x.split(3, 1));
        check.refuses(x, "split(-1, 1)", Columns.INDEX, () -> x.split(-1, 1));
        x.undo();
        check.same("split(): lengths behind undo()", Columns.lengths(x), "8 2 +0");

        PickedForms y = Columns.block(5, 5, 5, 5, 5, 5, 5, 5,
                100, 900, 300, 700, 50, 999, 250, 620);
        check.same("split() that saves: runs", y.block(0, 3), 126);
        check.same("split() that saves", y.split(0, 8), 25);

        PickedForms z = Columns.twelveShort();
        z.drop(0);
        Columns.addBlock(z, 3, 4);
        check.refuses(z, "split() with 12 blocks", Columns.STATE, () -> z.split(11, 1));
        check.refuses(z, "split(): the place first", Columns.INDEX, () -> z.split(11, 2));
        z.drop(0);
        z.split(10, 1);
        check.same("split() to 12 blocks", Columns.lengths(z), "1 1 1 1 1 1 1 1 1 1 1 1 +0");
    }

    private static String blocks(PickedForms x) {
        StringBuilder all = new StringBuilder();
        for (int block = 0; block < x.count(1); block++) {
            all.append(x.block(block, 0)).append('/').append(x.block(block, 1)).append('/')
                    .append(x.block(block, 3)).append(' ');
        }
        return all.toString();
    }

    private static void neighboursStay() {
        PickedForms x = Columns.block(3, 3, 3, 3, 3, 900, 900);
        Columns.addBlock(x, 5, 5, 5, 7, 7, 9);
        Columns.addBlock(x, 9);
        Columns.addBlock(x, 100, 101, 103, 102);
        Columns.addBlock(x, 0, 999, 0, 999, 0);
        check.same("blocks", blocks(x), "2/7/28 3/6/29 0/1/10 1/4/22 4/5/29 ");
        x.join(1);
        check.same("join(1): the others stay", blocks(x), "2/7/28 3/7/32 1/4/22 4/5/29 ");
        x.split(1, 6);
        check.same("split(1, 6): the others stay", blocks(x),
                "2/7/28 3/6/29 0/1/10 1/4/22 4/5/29 ");
        x.split(3, 1);
        check.same("split(3, 1): the others stay", blocks(x),
                "2/7/28 3/6/29 0/1/10 0/1/10 1/3/20 4/5/29 ");
        x.join(3);
        check.same("join(3): the others stay", blocks(x), "2/7/28 3/6/29 0/1/10 1/4/22 4/5/29 ");
        x.anew(3);
        x.change(14, 800);
        check.same("change() anew: the others stay", blocks(x),
                "2/7/28 3/6/29 0/1/10 0/4/40 4/5/29 ");
        x.drop(1);
        check.same("drop(1): the others stay", blocks(x), "2/7/28 0/1/10 0/4/40 4/5/29 ");
        check.same("the values", Columns.values(x),
                "3,3,3,3,3,900,900,9,800,101,103,102,0,999,0,999,0");
    }

    private static void drop() {
        PickedForms x = Columns.block(1, 2, 3);
        Columns.addBlock(x, 700);
        Columns.addBlock(x, 4, 4);
        Columns.writeAll(x, 8, 9);
        int anew = x.count(5);
        check.same("drop(1)", x.drop(1), 1);
        check.same("drop(1): values", Columns.values(x), "1,2,3,4,4,8,9");
        check.same("drop(1): lengths", Columns.lengths(x), "3 2 +2");
        check.same("drop(1): forms move up", x.block(1, 0), 1);
        check.same("drop(1): rooms move up", x.block(1, 3), 14);
        check.same("drop(0)", x.drop(0), 3);
        check.same("drop(0)", x.drop(0), 2);
        check.same("drop(): the tail stays", Columns.values(x), "8,9");
        check.same("drop(): nothing is written anew", x.count(5), anew);
        check.refuses(x, "drop(0) without blocks", Columns.INDEX, () -> x.drop(0));
        check.refuses(x, "drop(-1)", Columns.INDEX, () -> x.drop(-1));
        x.undo();
        check.same("drop(): values behind undo()", Columns.values(x), "4,4,8,9");
    }

    private static void set() {
        PickedForms x = Columns.block(100, 101, 103, 102);
        check.same("set(0, 1)", x.set(0, 1), 16);
        check.same("set(0, 16)", x.set(0, 16), 1);
        check.same("set(1, 2)", x.set(1, 2), 16);
        check.same("set(1, 16)", x.set(1, 16), 2);
        check.same("set(2, 1)", x.set(2, 1), 31);
        check.same("set(2, 31)", x.set(2, 31), 1);
        check.same("set(2, 17)", x.set(2, 17), 31);
        check.same("setting(2)", x.setting(2), 17);
        check.same("set(): nothing is written anew", x.count(5), 1);
        check.same("set(): the form stays", x.block(0, 0), 1);
        check.same("set(): the form that would be picked", x.block(0, 8), 0);
        x.undo();
        check.same("set(): setting(2) behind undo()", x.setting(2), 31);
        x.undo();
        check.same("set(): setting(2) behind undo()", x.setting(2), 1);
    }

    private static void setIsRefused() {
        PickedForms x = new PickedForms();
        check.refuses(x, "set(-1, 0)", Columns.INDEX, () -> x.set(-1, 0));
        check.refuses(x, "set(3, 1)", Columns.INDEX, () -> x.set(3, 1));
        check.refuses(x, "set(0, 0)", Columns.ARGUMENT, () -> x.set(0, 0));
        check.refuses(x, "set(0, 17)", Columns.ARGUMENT, () -> x.set(0, 17));
        check.refuses(x, "set(1, 1)", Columns.ARGUMENT, () -> x.set(1, 1));
        check.refuses(x, "set(1, 17)", Columns.ARGUMENT, () -> x.set(1, 17));
        check.refuses(x, "set(2, 0)", Columns.ARGUMENT, () -> x.set(2, 0));
        check.refuses(x, "set(2, 30)", Columns.ARGUMENT, () -> x.set(2, 30));
        check.refuses(x, "set(2, 32)", Columns.ARGUMENT, () -> x.set(2, 32));
        check.refuses(x, "set(2, 33)", Columns.ARGUMENT, () -> x.set(2, 33));
        check.refuses(x, "set(2, -1)", Columns.ARGUMENT, () -> x.set(2, -1));
    }
}
