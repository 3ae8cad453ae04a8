import java.util.Random;

/** Long runs of calls, the same on the program and on the model, from fixed seeds. */
final class ModelTest {

    private static final int RUNS = 60;
    private static final int CALLS = 512;
    private static final int[] ODD = {Integer.MIN_VALUE, -1000, -2, -1, 0, 1, 2, 3, 4, 5, 9, 10,
        11, 12, 16, 17, 31, 32, 33, 60, 126, 127, 206, 207, 208, 998, 999, 1000,
        Integer.MAX_VALUE - 1, Integer.MAX_VALUE};

    private static final Check check = new Check("ModelTest");

    private final Random random;
    private final PickedForms x = new PickedForms();
    private final Model model = new Model();
    private final int run;
    private final int style;
    private int base = 500;

    private ModelTest(int run) {
        this.run = run;
        this.random = new Random(run);
        this.style = run % 4;
    }

    public static void main(String[] args) {
        for (int run = 1; run <= RUNS; run++) {
            new ModelTest(run).go();
        }
        check.end();
    }

    private void go() {
        int calls = 0;
        while (calls < CALLS - 1) {
            calls += step();
            if (random.nextInt(12) == 0) {
                same("digest()", x::digest, model::digest);
                shares();
                calls += 3;
            }
        }
        same("digest() at the end", x::digest, model::digest);
    }

    private void shares() {
        check.same("run " + run + ": sizeShare()", x.sizeShare(), model.sizeShare());
        check.same("run " + run + ": meanBits()", x.meanBits(), model.meanBits());
    }

    private void same(String what, Check.Call call, Check.Call due) {
        check.same("run " + run + ": " + what, Check.answer(call), Check.answer(due));
    }

    private int below(int bound) {
        return bound <= 0 ? 0 : random.nextInt(bound);
    }

    /** Mostly within the bound, at times far off. */
    private int number(int bound) {
        return random.nextInt(15) == 0 ? ODD[below(ODD.length)] : below(bound);
    }

    /** Values that suit each form by turns. */
    private int value() {
        if (random.nextInt(40) == 0) {
            return ODD[below(ODD.length)];
        }
        switch (random.nextInt(6)) {
            case 0:
                base = random.nextInt(1000);
                return base;
            case 1:
                base = Math.min(999, base + random.nextInt(4));
                return base;
            case 2:
                base = Math.max(0, base - random.nextInt(30));
                return base;
            case 3:
                return 111 * random.nextInt(3);
            default:
                return base;
        }
    }

    private int step() {
        switch (random.nextInt(style == 0 ? 24 : 34)) {
            case 0:
            case 1:
                return closing();
            case 2:
            case 3:
            case 4:
                return changing();
            case 5:
            case 6:
            case 7:
                return ofBlocks();
            case 8:
                return setting();
            case 9:
            case 10:
                return text();
            case 11:
                return states();
            case 12:
            case 13:
            case 14:
            case 15:
                return looks();
            case 16:
            case 17:
                return whatIf();
            default:
                int value = value();
                same("write(" + value + ")", () -> x.write(value), () -> model.write(value));
                return 1;
        }
    }

    private int closing() {
        same("close()", x::close, model::close);
        return 1;
    }

    private int changing() {
        int index = number(x.count(0) + (random.nextInt(9) == 0 ? 1 : 0));
        int value = random.nextBoolean() || index < 0 || index >= x.count(0)
                ? value() : x.value(index, 0) + random.nextInt(5) - 2;
        String what = "change(" + index + ", " + value + ")";
        for (int i = 0; i <= 1; i++) {
            int last = i;
            same("if " + what, () -> x.ifChanged(index, value, last),
                    () -> model.ifChanged(index, value, last));
        }
        same(what, () -> x.change(index, value), () -> model.change(index, value));
        return 3;
    }

    private int ofBlocks() {
        int block = number(x.count(1));
        int length = block >= 0 && block < x.count(1) ? x.block(block, 1) : 3;
        int place = number(length + 1);
        switch (random.nextInt(style == 1 ? 5 : 4)) {
            case 0:
                same("anew(" + block + ")", () -> x.anew(block), () -> model.anew(block));
                break;
            case 1:
                same("join(" + block + ")", () -> x.join(block), () -> model.join(block));
                break;
            case 2:
            case 3:
                same("split(" + block + ", " + place + ")", () -> x.split(block, place),
                        () -> model.split(block, place));
                break;
            default:
                same("drop(" + block + ")", () -> x.drop(block), () -> model.drop(block));
                break;
        }
        return 1;
    }

    private int setting() {
        int setting = number(3);
        int value = setting == 2 ? number(16) * 2 + 1
                : style == 2 ? 2 + number(4) : number(18);
        same("set(" + setting + ", " + value + ")", () -> x.set(setting, value),
                () -> model.set(setting, value));
        return 1;
    }

    private int text() {
        if (random.nextInt(4) == 0) {
            same("clearBuffer()", x::clearBuffer, model::clearBuffer);
            return 1;
        }
        int length = 1 + random.nextInt(style == 3 ? 24 : 10);
        String signs = random.nextInt(4) == 0 ? "0123456789*,,a+-. " : "012345678,,*1,*2,";
        for (int i = 0; i < length; i++) {
            int code = signs.charAt(below(signs.length()));
            same("append(" + code + ")", () -> x.append(code), () -> model.append(code));
            same("firstError()", x::firstError, model::firstError);
        }
        repair();
        same("load()", x::load, model::load);
        return length * 2 + 1;
    }

    /** Without this few random texts would be columns. */
    private void repair() {
        if (random.nextInt(3) == 0) {
            return;
        }
        same("clearBuffer()", x::clearBuffer, model::clearBuffer);
        StringBuilder text = new StringBuilder();
        int parts = 1 + random.nextInt(4);
        for (int i = 0; i < parts; i++) {
            int value = Math.max(0, Math.min(999, value()));
            text.append(i == 0 ? "" : ",").append(value);
            if (random.nextBoolean()) {
                text.append('*').append(2 + random.nextInt(15));
            }
        }
        for (int i = 0; i < text.length(); i++) {
            int code = text.charAt(i);
            same("append(" + code + ")", () -> x.append(code), () -> model.append(code));
        }
    }

    private int states() {
        switch (random.nextInt(5)) {
            case 0:
                same("keep()", x::keep, model::keep);
                break;
            case 1:
                same("goBack()", x::goBack, model::goBack);
                break;
            default:
                same("undo()", x::undo, model::undo);
                break;
        }
        return 1;
    }

    private int looks() {
        int index = number(x.count(0) + 1);
        int block = number(x.count(1) + 1);
        int what = number(12);
        same("value(" + index + ", " + what + ")", () -> x.value(index, what % 5),
                () -> model.value(index, what % 5));
        same("block(" + block + ", " + what + ")", () -> x.block(block, what),
                () -> model.block(block, what));
        same("size(" + block + ", " + what + ")", () -> x.size(block, what),
                () -> model.size(block, what));
        int place = number(240);
        same("bit(" + block + ", " + place + ")", () -> x.bit(block, place),
                () -> model.bit(block, place));
        same("count(" + what + ")", () -> x.count(what), () -> model.count(what));
        same("setting(" + what + ")", () -> x.setting(what), () -> model.setting(what));
        return 6;
    }

    private int whatIf() {
        int least = value();
        int greatest = random.nextBoolean() ? value() : least + random.nextInt(20);
        for (int i = 0; i <= 3; i++) {
            int what = i;
            same("match(" + least + ", " + greatest + ", " + what + ")",
                    () -> x.match(least, greatest, what), () -> model.match(least, greatest, what));
        }
        int what = number(3);
        int block = number(x.count(1) + 1);
        same("least(" + what + ")", () -> x.least(what), () -> model.least(what));
        same("bestSplit(" + block + ")", () -> x.bestSplit(block), () -> model.bestSplit(block));
        return 6;
    }
}
