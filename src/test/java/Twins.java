import java.util.StringJoiner;

/**
 * What a call does to an object is told by its twin, which is made alike and not called:
 * both are used up, state by state, and must tell the same.
 */
final class Twins {

    interface Maker {
        PickedForms make();
    }

    interface Use {
        long of(PickedForms x);
    }

    private final Check check;

    Twins(Check check) {
        this.check = check;
    }

    /** The call throws just this exception, and nothing at all is changed by it. */
    void refused(String what, Maker maker, Class<? extends RuntimeException> due, Use use) {
        PickedForms x = maker.make();
        check.same(what, Check.answer(() -> use.of(x)), "throws." + due.getSimpleName());
        check.same(what + " changes nothing", trace(x), trace(maker.make()));
    }

    /** The call answers this, and nothing at all is changed by it. */
    void looks(String what, Maker maker, String due, Use use) {
        PickedForms x = maker.make();
        check.same(what, Check.answer(() -> use.of(x)), due);
        check.same(what + " changes nothing", trace(x), trace(maker.make()));
    }

    /** The call saves one state, and undo() restores all but the buffer and the snapshot. */
    void undoable(String what, Maker maker, Use use) {
        PickedForms x = maker.make();
        PickedForms twin = maker.make();
        int saved = x.count(8);
        check.same(what + " has room for one more state", saved < 6 ? 1 : 0, 1);
        use.of(x);
        check.same(what + " saves one state", x.count(8), saved + 1);
        check.same(what + ": undo()", x.undo(), saved);
        x.clearBuffer();
        twin.clearBuffer();
        check.same(what + ": all is restored", trace(x), trace(twin));
    }

    /** All that the face tells of an object: its state, its saved states, its snapshot. */
    static String trace(PickedForms x) {
        StringJoiner all = new StringJoiner(" ");
        addState(all, x);
        all.add("error").add(Check.answer(x::firstError));
        for (int left = x.count(8); left > 0; left--) {
            all.add("undo").add(Check.answer(x::undo));
            addState(all, x);
        }
        all.add("goBack").add(Check.answer(x::goBack));
        addState(all, x);
        all.add("buffer").add(Check.answer(x::clearBuffer));
        return all.toString();
    }

    private static void addState(StringJoiner all, PickedForms x) {
        all.add("state").add(Columns.lengths(x));
        for (int what = 0; what <= 8; what++) {
            all.add(Integer.toString(x.count(what)));
        }
        all.add(Check.answer(x::digest));
    }
}
