import java.lang.management.ManagementFactory;

/** An object makes its rows once; its calls make nothing, so any run of calls stays in the room of one object. */
public final class RoomTest {
    public static void main(String[] args) {
        Due due = new Due();
        com.sun.management.ThreadMXBean threads = (com.sun.management.ThreadMXBean) ManagementFactory.getThreadMXBean();
        long self = Thread.currentThread().getId();
        int[] rows = Due.rows("def f{lock 1{spend a*b;}}times double a{times b{times c{times d{call f;}}}}"
            + "if a<3{times a*b{hold c{call f;}}}else{times d{times c{times b{spend a;}}}}");
        // One round warms the machine up: what it makes for itself is not the class's.
        long calls = Long.MAX_VALUE;
        long object = Long.MAX_VALUE;
        for (int round = 0; round < 3; round++) {
            long start = threads.getThreadAllocatedBytes(self);
            UsedUp x = new UsedUp();
            long made = threads.getThreadAllocatedBytes(self);
            everything(x, rows);
            long end = threads.getThreadAllocatedBytes(self);
            object = Math.min(object, made - start);
            calls = Math.min(calls, end - made);
        }
        System.out.println("an object: " + object + " bytes; a run of calls on it: " + calls + " bytes");
        due.that("an object is small", object < 60000);
        due.that("calls make next to nothing", calls < 4000);
        due.finish();
    }

    private static void everything(UsedUp x, int[] rows) {
        for (int round = 0; round < 8; round++) {
            for (int i = 0; i < rows.length; i += 5) {
                x.feed(rows[i], rows[i + 1], rows[i + 2], rows[i + 3], rows[i + 4]);
            }
            x.program();
            x.fault();
            x.ordinary(round, 1, 1, 1);
            x.worst(0, 20);
            x.cheapest(1, 3);
            x.where(0);
            x.need(1);
            x.cap(0, 3);
            x.capped(0);
            x.spends(0, 9, 9, 9, 9);
            x.budgets(1000);
            x.ahead(0, 1);
            x.tangled();
            x.count(3);
            x.status();
            x.ask(0);
            x.name(0, 5, 1);
            x.end(0);
        }
    }
}
