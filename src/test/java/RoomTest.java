import java.lang.management.ManagementFactory;

/** The dearest calls make no objects: all the calls of a run live in one room. */
final class RoomTest {

    private static final int CALLS = 512;
    private static final long LEAST_SURE = 64 * 1024;

    private static final Check check = new Check("RoomTest");
    private static long sum = 0;

    public static void main(String[] args) {
        PickedForms x = filled();
        measure("digest()", () -> x.digest());
        measure("undoable calls", () -> x.change(5, 7) + x.anew(0) + x.undo() + x.undo());
        measure("split and join", () -> x.split(0, 3) + x.join(0));
        measure("least", () -> x.least(0) + x.least(1) + x.least(2));
        measure("the snapshot", () -> x.keep() + x.goBack());
        measure("texts", () -> {
            x.append(53);
            return x.firstError() + x.load() + x.undo();
        });
        System.out.println("RoomTest: sum " + sum);
        check.end();
    }

    private static PickedForms filled() {
        PickedForms x = new PickedForms();
        for (int i = 0; i < 190; i++) {
            x.write(i * i % 1000);
        }
        return x;
    }

    private static void measure(String what, Check.Call call) {
        sum += call.run();
        long before = allocated();
        for (int i = 0; i < CALLS; i++) {
            sum += call.run();
        }
        long made = allocated() - before;
        check.same(what + " make " + made + " bytes", made < LEAST_SURE ? 1 : 0, 1);
    }

    private static long allocated() {
        if (ManagementFactory.getThreadMXBean() instanceof com.sun.management.ThreadMXBean bean) {
            return bean.getThreadAllocatedBytes(Thread.currentThread().getId());
        }
        return 0;
    }
}
