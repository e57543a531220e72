import java.lang.management.ManagementFactory;

/** Rows are made in the constructor and used again: what the dearest calls make is counted. */
public final class RoomTest {
    private static final com.sun.management.ThreadMXBean COUNTER =
        (com.sun.management.ThreadMXBean) ManagementFactory.getThreadMXBean();

    private static long made() { return COUNTER.getThreadAllocatedBytes(Thread.currentThread().getId()); }

    private static int askAll(SmokeWord x) {
        return x.order(60, -1) + x.silent(60, 0) + x.rests(0, 1, 20, 0) + x.heard(2) + x.look(0) + x.ruled(0) + x.water(60)
            + x.clear(60, 0) + x.sparks(10, 60, 50, 0) + x.out() + x.left(100) + x.ahead(0, 100, 0) + x.first(0)
            + x.pence(99, 0) + x.canBurn() + x.hour() + x.undo() + x.image(0) + x.back(0) + x.valley() + x.rule();
    }

    public static void main(String[] args) {
        // The first object loads the classes, too.
        int none = new SmokeWord().count(16);
        long before = made();
        SmokeWord x = new SmokeWord();
        long object = made() - before;
        Told.put(x, "valley 2 4;house 90 1 9;house 80 2 8;house 70 3 7;house 60 1 6;house 50 2 5;house 40 3 4;road 0 1 1;road 1 2 2;"
            + "road 2 3 3;road 0 4 2;road 4 5 1;road 5 6 2;beside 0 1;beside 1 2;beside 4 5");
        x.valley();
        for (int i = 0; i < 6; i++) {
            Told.put(x, "go worth * says - far + near if smoke = 1 and not [ been > 3 or lost > 200 ]; go fires");
            x.rule();
        }
        x.force(0);
        askAll(x);
        before = made();
        int sum = none;
        for (int i = 0; i < 20; i++) sum += askAll(x);
        long asked = made() - before;
        System.out.println("an object takes " + object + " bytes, 420 calls of the dearest " + asked + " (" + sum % 2 + ")");
        if (object > 40000 || asked > 20000) System.exit(1);
    }
}
