/** Promise 23 at its edges: match, in each form, and the looks that it takes. */
final class MatchEdgesTest {

    private static final String FORMS = "Otherwise there are: for the forms plain, packed and "
            + "deltas as many looks as it has values; for runs as many as it has runs; for listed "
            + "as many as it has unlike values, and as many as it has values.";
    private static final String KNOWN = "On the form it is done so, with looks that are counted: "
            + "for each block there is 1 look at its least and its greatest value (they are "
            + "known); if these two tell that all its values are outside (the greatest one is "
            + "below the least number, or the least one above the greatest number), or that all "
            + "are inside, that is all;";
    private static final String BELOW = "it is also all if the greatest number is below the "
            + "least one.";
    private static final String WHAT = "`what`: 0: how many values match, told on the forms; "
            + "1: how many match, told by reading all values; 2: the looks that matching on the "
            + "forms takes; 3: the index of the first value that matches, NONE if none does";

    private static final Check check = new Check("MatchEdgesTest");
    private static final Twins twins = new Twins(check);

    public static void main(String[] args) {
        Edges.run(MatchEdgesTest.class, check);
    }

    /** The four answers, one behind the other. */
    private static void matches(PickedForms x, int least, int greatest, String due) {
        StringBuilder all = new StringBuilder();
        for (int what = 0; what <= 3; what++) {
            all.append(what == 0 ? "" : " ").append(x.match(least, greatest, what));
        }
        check.same("match(" + least + ", " + greatest + ")", all.toString(), due);
    }

    private static PickedForms plain() {
        return Columns.block(1, 999);
    }

    private static PickedForms packed() {
        return Columns.block(100, 101, 103, 102);
    }

    private static PickedForms runs() {
        return Columns.block(3, 3, 3, 3, 3, 900, 900);
    }

    private static PickedForms deltas() {
        return Columns.block(5, 5, 5, 7, 7, 9);
    }

    private static PickedForms listed() {
        return Columns.block(10, 990, 10, 990, 10);
    }

    private static void form(PickedForms x, int due) {
        check.same("the form", x.block(0, 0), due);
    }

    // ---- the arguments

    @Says({"Matches values.", "`least`: 0 to 999",
        "`greatest`: 0 to 999 (below least: no value matches)"})
    static void promise23_letsIn0And999() {
        matches(Columns.rich(), 0, 999, "27 27 8 0");
        matches(Columns.rich(), 0, 0, "3 3 15 19");
        matches(Columns.rich(), 999, 999, "3 3 17 1");
    }

    @Says("Throws `IllegalArgumentException` if an argument is out of range")
    static void promise23_refusesALeastThatIsNone() {
        int[] none = {-1, 1000, Integer.MIN_VALUE, Integer.MAX_VALUE};
        for (int least : none) {
            twins.refused("match(" + least + ", 5, 0)", Columns::rich, Columns.ARGUMENT,
                    x -> x.match(least, 5, 0));
        }
    }

    @Says("Throws `IllegalArgumentException` if an argument is out of range")
    static void promise23_refusesAGreatestThatIsNone() {
        int[] none = {-1, 1000, Integer.MIN_VALUE, Integer.MAX_VALUE};
        for (int greatest : none) {
            twins.refused("match(5, " + greatest + ", 0)", Columns::rich, Columns.ARGUMENT,
                    x -> x.match(5, greatest, 0));
        }
    }

    @Says("Throws `IllegalArgumentException` if an argument is out of range")
    static void promise23_refusesAWhatThatIsNone() {
        int[] none = {-1, 4, Integer.MIN_VALUE, Integer.MAX_VALUE};
        for (int what : none) {
            twins.refused("match(5, 9, " + what + ")", Columns::rich, Columns.ARGUMENT,
                    x -> x.match(5, 9, what));
        }
        twins.refused("without values", PickedForms::new, Columns.ARGUMENT,
                x -> x.match(5, 9, 4));
    }

    @Says("Throws `IllegalArgumentException` if an argument is out of range")
    static void promise23_refusesAlsoWhereNothingCouldMatch() {
        for (int number = 0; number <= 3; number++) {
            int what = number;
            twins.refused("match(0, 1000)", PickedForms::new, Columns.ARGUMENT,
                    x -> x.match(0, 1000, what));
            twins.refused("match(1000, 0)", Columns::rich, Columns.ARGUMENT,
                    x -> x.match(1000, 0, what));
            twins.refused("match(999, -1)", Columns::rich, Columns.ARGUMENT,
                    x -> x.match(999, -1, what));
        }
    }

    @Says(WHAT)
    static void promise23_eachNumberIsOfItsOwnCall() {
        int[] due = {3, 3, 15, 19};
        for (int what = 0; what <= 3; what++) {
            check.same("asked first", Columns.rich().match(0, 0, what), due[what]);
            PickedForms x = Columns.rich();
            x.match(0, 999, 2);
            x.match(500, 499, 0);
            check.same("asked behind another", x.match(0, 0, what), due[what]);
        }
    }

    // ---- the empty and the full column

    @Says({"To match means to find how many values of the column are from a least number to a "
        + "greatest one.", WHAT, "Returns the number."})
    static void promise23_withoutValues() {
        matches(new PickedForms(), 0, 999, "0 0 0 -1");
        matches(new PickedForms(), 999, 0, "0 0 0 -1");
    }

    @Says({"To match means to find how many values of the column are from a least number to a "
        + "greatest one.", WHAT})
    static void promise23_ofTheFullColumn() {
        PickedForms x = Columns.brimful();
        matches(x, 0, 999, "207 207 27 0");
        matches(x, 1, 1, "32 32 27 16");
        matches(x, 500, 500, "15 15 27 192");
        matches(x, 10, 499, "0 0 27 -1");
        matches(x, 9, 500, "31 31 27 144");
    }

    @Says("`greatest`: 0 to 999 (below least: no value matches)")
    static void promise23_greatestBelowLeast() {
        matches(packed(), 102, 101, "0 0 1 -1");
        matches(packed(), 103, 100, "0 0 1 -1");
        matches(Columns.rich(), 999, 0, "0 0 8 -1");
        matches(Columns.rich(), 8, 7, "0 0 8 -1");
        matches(Columns.rich(), 70, 69, "0 0 8 -1");
    }

    @Says(BELOW)
    static void promise23_greatestBelowLeastTakesOneLookOfEachForm() {
        matches(plain(), 500, 499, "0 0 1 -1");
        matches(packed(), 102, 101, "0 0 1 -1");
        matches(runs(), 500, 499, "0 0 1 -1");
        matches(deltas(), 7, 6, "0 0 1 -1");
        matches(listed(), 500, 499, "0 0 1 -1");
        matches(deltas(), 7, 7, "2 2 7 3");
    }

    @Says("For each value of the tail there is 1 look.")
    static void promise23_theTailTakesItsLooksAlways() {
        PickedForms x = Columns.of(4, 5, 6);
        matches(x, 0, 999, "3 3 3 0");
        matches(x, 7, 999, "0 0 3 -1");
        matches(x, 6, 5, "0 0 3 -1");
        matches(x, 5, 5, "1 1 3 1");
        PickedForms one = Columns.of(4);
        matches(one, 4, 4, "1 1 1 0");
        PickedForms most = new PickedForms();
        Columns.loaded(most, "4*15");
        matches(most, 5, 6, "0 0 15 -1");
    }

    // ---- all outside, all inside

    @Says(KNOWN)
    static void promise23_plainAtItsLeastAndGreatest() {
        PickedForms x = plain();
        form(x, 0);
        matches(x, 0, 0, "0 0 1 -1");
        matches(x, 0, 1, "1 1 3 0");
        matches(x, 999, 999, "1 1 3 1");
        matches(x, 1, 999, "2 2 1 0");
        matches(x, 1, 998, "1 1 3 0");
        matches(x, 2, 999, "1 1 3 1");
        matches(Columns.block(1, 998), 999, 999, "0 0 1 -1");
        matches(Columns.block(1, 998), 998, 999, "1 1 3 1");
    }

    @Says(KNOWN)
    static void promise23_packedAtItsLeastAndGreatest() {
        PickedForms x = packed();
        form(x, 1);
        matches(x, 0, 99, "0 0 1 -1");
        matches(x, 0, 100, "1 1 5 0");
        matches(x, 104, 999, "0 0 1 -1");
        matches(x, 103, 999, "1 1 5 2");
        matches(x, 100, 103, "4 4 1 0");
        matches(x, 101, 103, "3 3 5 1");
        matches(x, 100, 102, "3 3 5 0");
    }

    @Says(KNOWN)
    static void promise23_runsAtTheirLeastAndGreatest() {
        PickedForms x = runs();
        form(x, 2);
        matches(x, 0, 2, "0 0 1 -1");
        matches(x, 0, 3, "5 5 3 0");
        matches(x, 901, 999, "0 0 1 -1");
        matches(x, 900, 999, "2 2 3 5");
        matches(x, 3, 900, "7 7 1 0");
        matches(x, 4, 900, "2 2 3 5");
        matches(x, 3, 899, "5 5 3 0");
    }

    @Says(KNOWN)
    static void promise23_deltasAtTheirLeastAndGreatest() {
        PickedForms x = deltas();
        form(x, 3);
        matches(x, 0, 4, "0 0 1 -1");
        matches(x, 0, 5, "3 3 7 0");
        matches(x, 10, 999, "0 0 1 -1");
        matches(x, 9, 999, "1 1 7 5");
        matches(x, 5, 9, "6 6 1 0");
        matches(x, 6, 9, "3 3 7 3");
        matches(x, 5, 8, "5 5 7 0");
    }

    @Says(KNOWN)
    static void promise23_listedAtItsLeastAndGreatest() {
        PickedForms x = listed();
        form(x, 4);
        matches(x, 0, 9, "0 0 1 -1");
        matches(x, 0, 10, "3 3 8 0");
        matches(x, 991, 999, "0 0 1 -1");
        matches(x, 990, 999, "2 2 8 1");
        matches(x, 10, 990, "5 5 1 0");
        matches(x, 11, 990, "2 2 8 1");
        matches(x, 10, 989, "3 3 8 0");
    }

    @Says(FORMS)
    static void promise23_betweenTheValuesNoneMatchesButAllAreLookedAt() {
        matches(plain(), 2, 998, "0 0 3 -1");
        matches(runs(), 4, 899, "0 0 3 -1");
        matches(deltas(), 6, 6, "0 0 7 -1");
        matches(listed(), 11, 989, "0 0 8 -1");
    }

    @Says(KNOWN)
    static void promise23_blocksOfLikeValuesTakeOneLook() {
        matches(Columns.block(7), 0, 6, "0 0 1 -1");
        matches(Columns.block(7), 7, 7, "1 1 1 0");
        matches(Columns.block(7), 8, 999, "0 0 1 -1");
        PickedForms x = Columns.block(7, 7, 7);
        matches(x, 0, 6, "0 0 1 -1");
        matches(x, 7, 7, "3 3 1 0");
        matches(x, 8, 999, "0 0 1 -1");
    }

    @Says(FORMS)
    static void promise23_blocksOf16Values() {
        PickedForms plain = Columns.of(0, 999, 1, 998, 2, 997, 3, 996, 4, 995, 5, 994, 6, 993, 7,
                992);
        form(plain, 0);
        matches(plain, 0, 998, "15 15 17 0");
        PickedForms deltas = Columns.of(1, 2, 3, 4, 5, 6, 7, 8, 9, 10, 11, 12, 13, 14, 15, 16);
        form(deltas, 3);
        matches(deltas, 16, 16, "1 1 17 15");
        PickedForms runs = Columns.of(3, 3, 3, 3, 3, 3, 3, 3, 3, 3, 3, 3, 3, 3, 3, 900);
        form(runs, 2);
        matches(runs, 900, 900, "1 1 3 15");
        PickedForms listed = Columns.of(0, 999, 0, 999, 0, 999, 0, 999, 0, 999, 0, 999, 0, 999, 0,
                999);
        form(listed, 4);
        matches(listed, 0, 0, "8 8 19 0");
    }

    @Says(FORMS)
    static void promise23_runsThatComeAgainAreLookedAtAgain() {
        PickedForms x = new PickedForms();
        x.set(0, 3);
        x.set(2, 5);
        Columns.addBlock(x, 3, 3, 3, 900, 3, 3, 500);
        form(x, 2);
        matches(x, 3, 3, "5 5 5 0");
        matches(x, 500, 900, "2 2 5 3");
    }

    @Says("if these two tell that all its values are outside")
    static void promise23_byTheValuesAfterAChangeInPlace() {
        PickedForms x = Columns.block(100, 102, 100, 100);
        x.change(1, 101);
        form(x, 1);
        matches(x, 102, 999, "0 0 1 -1");
        matches(x, 100, 101, "4 4 1 0");
    }

    @Says("3: the index of the first value that matches, NONE if none does")
    static void promise23_theFirstIndexOverAllBlocksAndTheTail() {
        PickedForms x = Columns.rich();
        matches(x, 1, 1, "1 1 17 0");
        matches(x, 70, 70, "1 1 19 26");
        matches(x, 0, 0, "3 3 15 19");
        matches(x, 60, 99, "2 2 19 25");
        matches(x, 71, 99, "0 0 19 -1");
    }

    @Says("---- looks; nothing is changed.")
    static void promise23_changesNothing() {
        twins.looks("match(5, 600, 0)", Columns::richWithSixStates, number(5, 600, 0),
                x -> x.match(5, 600, 0));
        twins.looks("match(5, 600, 1)", Columns::richWithSixStates, number(5, 600, 1),
                x -> x.match(5, 600, 1));
        twins.looks("match(5, 600, 2)", Columns::richWithSixStates, number(5, 600, 2),
                x -> x.match(5, 600, 2));
        twins.looks("match(5, 600, 3)", Columns::richWithSixStates, number(5, 600, 3),
                x -> x.match(5, 600, 3));
    }

    private static String number(int least, int greatest, int what) {
        return Long.toString(Columns.richWithSixStates().match(least, greatest, what));
    }
}
