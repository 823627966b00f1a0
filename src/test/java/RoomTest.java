import java.lang.management.ManagementFactory;

/** The dearest runs of 512 calls stay far below the room that one run has. */
public final class RoomTest {
    private static final Check CHECK = new Check();
    /** 600,000 objects, 7,300,000 elements are the limit; bytes are many more than elements. */
    private static final long MOST_BYTES = 2_000_000;

    private RoomTest() {
    }

    public static void main(String[] args) {
        run("laws", RoomTest::laws);
        run("questions", RoomTest::questions);
        run("orders", RoomTest::orders);
        CHECK.finish();
    }

    private interface Run {
        void on(CommaWill x);
    }

    private static void run(String what, Run run) {
        run.on(new CommaWill());
        long before = allocated();
        run.on(new CommaWill());
        long bytes = allocated() - before;
        CHECK.due(what + " made " + bytes + " bytes", bytes < MOST_BYTES ? 1 : 0, 1);
    }

    private static long allocated() {
        com.sun.management.ThreadMXBean bean =
                (com.sun.management.ThreadMXBean) ManagementFactory.getThreadMXBean();
        return bean.getThreadAllocatedBytes(Thread.currentThread().getId());
    }

    private static void laws(CommaWill x) {
        x.image(0);
        for (int i = 0; i < 100; i++) {
            Check.put(x, "shares left + right * worth / [heir + 2]; bars if (heir = 9 or year > 3)");
            x.law();
            if (i % 6 == 5) {
                x.back(0);
            }
        }
    }

    private static void questions(CommaWill x) {
        for (int i = 0; i < 7; i++) {
            x.name(0, 0, i % 6);
        }
        for (int i = 0; i < 60; i++) {
            x.settle(2 * i, 0);
            x.ask(0);
            x.unlike();
            x.years(i, 60);
            x.compare(-1, i, 0);
            x.image(i % 2);
            x.turn(i % 6, (i / 6 + 1) % 3);
            x.few(20, 99);
        }
    }

    private static void orders(CommaWill x) {
        for (int i = 0; i < 7; i++) {
            x.name(0, 0, i % 6);
        }
        for (int i = 0; i < 60; i++) {
            Check.put(x, "mark 0 as [mark 0 + 1] % 4 times 20; mark 5 as [mark 5 + 1] % 4 times 20;"
                    + "turn 3 to [kind 3 + 1] % 3 times 20 if readings > 0");
            x.orders();
        }
    }
}
