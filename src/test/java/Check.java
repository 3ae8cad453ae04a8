/** Compares answers with what is due, and ends a test with exit code 1 if one differs. */
final class Check {

    interface Call {
        long run();
    }

    private final String name;
    private String test = "";
    private int tests = 0;
    private int compared = 0;
    private int wrong = 0;

    Check(String name) {
        this.name = name;
    }

    /** The comparisons behind this belong to the test of this name. */
    void begin(String nextTest) {
        test = nextTest + ": ";
        tests++;
    }

    void same(String what, long got, long due) {
        compared++;
        if (got != due) {
            tell(what, Long.toString(got), Long.toString(due));
        }
    }

    void same(String what, String got, String due) {
        compared++;
        if (!got.equals(due)) {
            tell(what, got, due);
        }
    }

    void same(String what, double got, double due) {
        compared++;
        if (Double.compare(got, due) != 0) {
            tell(what, Double.toString(got), Double.toString(due));
        }
    }

    /** The call throws just this exception, and what the object tells of itself stays. */
    void refuses(PickedForms x, String what, Class<? extends RuntimeException> due, Call call) {
        long before = x.digest();
        same(what, answer(call), "throws." + due.getSimpleName());
        same(what + " changes nothing", x.digest(), before);
    }

    static String answer(Call call) {
        try {
            return Long.toString(call.run());
        } catch (RuntimeException e) {
            return "throws." + e.getClass().getSimpleName();
        }
    }

    void end() {
        String told = tests == 0 ? "" : tests + " tests, ";
        System.out.println(name + ": " + told + compared + " compared, " + wrong + " wrong");
        if (wrong > 0) {
            System.exit(1);
        }
    }

    private void tell(String what, String got, String due) {
        wrong++;
        if (wrong <= 40) {
            System.out.println(name + ": " + test + what + " answered " + got + ", due is " + due);
        }
    }
}
