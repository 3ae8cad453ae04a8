import java.util.ArrayList;
import java.util.LinkedHashMap;
import java.util.List;
import java.util.Map;

/**
 * Every call with every mix of arguments at and around its bounds, in states that are empty,
 * full and between: which exception is thrown, told from the throws clauses one by one, and
 * that a refused call, or a look, changes nothing.
 */
final class RefusalsTest {

    private static final Check check = new Check("RefusalsTest");
    private static final Twins twins = new Twins(check);
    private static final int[] FAR = {Integer.MIN_VALUE, -1, 0, Integer.MAX_VALUE};

    private final String state;
    private final Twins.Maker maker;
    private final PickedForms told;
    private final int values;
    private final int blocks;
    private final int tail;

    private RefusalsTest(String state, Twins.Maker maker) {
        this.state = state;
        this.maker = maker;
        told = maker.make();
        values = told.count(0);
        blocks = told.count(1);
        tail = told.count(2);
    }

    public static void main(String[] args) {
        Map<String, Twins.Maker> states = new LinkedHashMap<>();
        states.put("new", PickedForms::new);
        states.put("a tail of one", () -> Columns.of(7));
        states.put("a block of one", () -> Columns.block(7));
        states.put("rich", Columns::rich);
        states.put("rich with six states", Columns::richWithSixStates);
        states.put("twelve short", Columns::twelveShort);
        states.put("full", Columns::full);
        states.put("brimful", Columns::brimful);
        states.put("brimful with all", Columns::brimfulWithAll);
        for (Map.Entry<String, Twins.Maker> entry : states.entrySet()) {
            RefusalsTest test = new RefusalsTest(entry.getKey(), entry.getValue());
            check.begin(entry.getKey());
            test.writing();
            test.blocks();
            test.texts();
            test.looks();
            test.whatWouldBe();
        }
        check.end();
    }

    // ---- numbers around a bound

    /** Just outside and just inside of both bounds, and far outside. */
    private static List<Integer> around(int least, int greatest) {
        List<Integer> all = new ArrayList<>();
        int[] near = {least - 1, least, greatest, greatest + 1};
        for (int number : near) {
            if (!all.contains(number)) {
                all.add(number);
            }
        }
        for (int number : FAR) {
            if (!all.contains(number)) {
                all.add(number);
            }
        }
        return all;
    }

    private List<Integer> indexes() {
        return around(0, values - 1);
    }

    private List<Integer> numbersOfBlocks() {
        return around(0, blocks - 1);
    }

    private static boolean in(int number, int least, int greatest) {
        return least <= number && number <= greatest;
    }

    private boolean isIndex(int index) {
        return in(index, 0, values - 1);
    }

    private boolean isBlock(int block) {
        return in(block, 0, blocks - 1);
    }

    private int lengthOf(int block) {
        return maker.make().block(block, 1);
    }

    // ---- what is due

    private void due(String what, Class<? extends RuntimeException> exception, Twins.Use use) {
        if (exception != null) {
            twins.refused(what, maker, exception, use);
        } else {
            String answer = Check.answer(() -> use.of(maker.make()));
            check.same(what + " of " + state + " is let in", answer.startsWith("throws") ? 0 : 1, 1);
        }
    }

    private void dueOfALook(String what, Class<? extends RuntimeException> exception,
            Twins.Use use) {
        due(what, exception, use);
        if (exception == null) {
            twins.looks(what, maker, Check.answer(() -> use.of(maker.make())), use);
        }
    }

    private static Class<? extends RuntimeException> index(boolean good) {
        return good ? null : Columns.INDEX;
    }

    private static Class<? extends RuntimeException> argument(boolean good) {
        return good ? null : Columns.ARGUMENT;
    }

    private static Class<? extends RuntimeException> state(boolean good) {
        return good ? null : Columns.STATE;
    }

    private static Class<? extends RuntimeException> first(
            Class<? extends RuntimeException> named, Class<? extends RuntimeException> next) {
        return named != null ? named : next;
    }

    // ---- the calls

    private void writing() {
        boolean closes = tail + 1 >= told.setting(1);
        for (int value : around(0, 999)) {
            due("write(" + value + ")", first(argument(in(value, 0, 999)),
                    state(!closes || blocks < 12)), x -> x.write(value));
        }
        due("close()", state(tail > 0 && blocks < 12), PickedForms::close);
        for (int index : indexes()) {
            for (int value : around(0, 999)) {
                due("change(" + index + ", " + value + ")", first(index(isIndex(index)),
                        argument(in(value, 0, 999))), x -> x.change(index, value));
            }
        }
    }

    private void blocks() {
        for (int block : numbersOfBlocks()) {
            due("anew(" + block + ")", index(isBlock(block)), x -> x.anew(block));
            due("drop(" + block + ")", index(isBlock(block)), x -> x.drop(block));
            split(block);
        }
        for (int block : around(0, blocks - 2)) {
            boolean two = in(block, 0, blocks - 2);
            due("join(" + block + ")", first(index(two),
                    state(!two || lengthOf(block) + lengthOf(block + 1) <= 16)),
                    x -> x.join(block));
        }
        int[] least = {1, 2, 1};
        int[] greatest = {16, 16, 31};
        for (int setting : around(0, 2)) {
            boolean is = in(setting, 0, 2);
            for (int value : around(is ? least[setting] : 1, is ? greatest[setting] : 16)) {
                boolean good = is && in(value, least[setting], greatest[setting])
                        && (setting != 2 || value % 2 == 1);
                due("set(" + setting + ", " + value + ")", first(index(is), argument(good)),
                        x -> x.set(setting, value));
            }
        }
    }

    private void split(int block) {
        int length = isBlock(block) ? lengthOf(block) : 2;
        for (int place : around(1, length - 1)) {
            boolean good = isBlock(block) && in(place, 1, length - 1);
            due("split(" + block + ", " + place + ")", first(index(good), state(blocks < 12)),
                    x -> x.split(block, place));
        }
    }

    private void texts() {
        int length = maker.make().clearBuffer();
        for (int code : around(33, 126)) {
            due("append(" + code + ")", first(argument(in(code, 33, 126)), state(length < 60)),
                    x -> x.append(code));
        }
        due("clearBuffer()", null, PickedForms::clearBuffer);
        dueOfALook("firstError()", null, PickedForms::firstError);
        due("load()", argument(state.startsWith("rich")), PickedForms::load);
        due("keep()", null, PickedForms::keep);
        due("goBack()", state(state.startsWith("rich") || state.endsWith("with all")),
                PickedForms::goBack);
        due("undo()", state(told.count(8) > 0), PickedForms::undo);
    }

    private void looks() {
        for (int index : indexes()) {
            for (int what : around(0, 3)) {
                dueOfALook("value(" + index + ", " + what + ")", first(index(isIndex(index)),
                        argument(in(what, 0, 3))), x -> x.value(index, what));
            }
        }
        for (int block : numbersOfBlocks()) {
            looksOf(block);
        }
        for (int what : around(0, 8)) {
            dueOfALook("count(" + what + ")", argument(in(what, 0, 8)), x -> x.count(what));
        }
        for (int setting : around(0, 2)) {
            dueOfALook("setting(" + setting + ")", index(in(setting, 0, 2)),
                    x -> x.setting(setting));
        }
        for (int least : around(0, 999)) {
            for (int greatest : around(0, 999)) {
                matches(least, greatest);
            }
        }
    }

    private void looksOf(int block) {
        for (int what : around(0, 9)) {
            dueOfALook("block(" + block + ", " + what + ")", first(index(isBlock(block)),
                    argument(in(what, 0, 9))), x -> x.block(block, what));
        }
        for (int form : around(0, 4)) {
            dueOfALook("size(" + block + ", " + form + ")", first(index(isBlock(block)),
                    argument(in(form, 0, 4))), x -> x.size(block, form));
        }
        for (int at : FAR) {
            dueOfALook("bit(" + block + ", " + at + ")", first(index(isBlock(block)),
                    argument(at >= 0)), x -> x.bit(block, at));
        }
    }

    private void matches(int least, int greatest) {
        for (int what : around(0, 3)) {
            due("match(" + least + ", " + greatest + ", " + what + ")",
                    argument(in(least, 0, 999) && in(greatest, 0, 999) && in(what, 0, 3)),
                    x -> x.match(least, greatest, what));
        }
    }

    private void whatWouldBe() {
        for (int index : indexes()) {
            for (int value : around(0, 999)) {
                for (int what : around(0, 1)) {
                    due("ifChanged(" + index + ", " + value + ", " + what + ")",
                            first(index(isIndex(index)),
                                    argument(in(value, 0, 999) && in(what, 0, 1))),
                            x -> x.ifChanged(index, value, what));
                }
            }
        }
        for (int block : numbersOfBlocks()) {
            dueOfALook("bestSplit(" + block + ")", index(isBlock(block)),
                    x -> x.bestSplit(block));
        }
        for (int what : around(0, 2)) {
            dueOfALook("least(" + what + ")", argument(in(what, 0, 2)), x -> x.least(what));
        }
        dueOfALook("sizeShare()", null, x -> Double.doubleToLongBits(x.sizeShare()));
        dueOfALook("meanBits()", null, x -> Float.floatToIntBits(x.meanBits()));
        dueOfALook("digest()", null, PickedForms::digest);
    }
}
