import java.lang.management.ManagementFactory;

/** All calls of a run share one room: the dearest runs of 512 calls must stay far below it. */
public final class RoomTest {
    /** The room has 7.3 million fields and elements, of four bytes at least. */
    private static final long MOST_BYTES = 2_000_000;
    private static final int CALLS = 512;

    public static void main(String[] args) {
        Check check = new Check("RoomTest");
        // The first run pays for what the machine itself makes once.
        for (int turn = 0; turn < 2; turn++) {
            boolean counts = turn == 1;
            room(check, counts, "needs", RoomTest::needsAgain);
            room(check, counts, "acts", RoomTest::actsAgain);
            room(check, counts, "questions", RoomTest::questions);
        }
        check.finish();
    }

    private static void room(Check check, boolean counts, String name, Runnable run) {
        com.sun.management.ThreadMXBean threads = (com.sun.management.ThreadMXBean) ManagementFactory.getThreadMXBean();
        long before = threads.getCurrentThreadAllocatedBytes();
        run.run();
        long used = threads.getCurrentThreadAllocatedBytes() - before;
        check.that(name + " took " + used + " bytes", !counts || used < MOST_BYTES);
    }

    private static void needsAgain() {
        MarkChains x = new MarkChains();
        for (int call = 0; call < CALLS; call++) {
            x.needs();
        }
    }

    private static void actsAgain() {
        MarkChains x = new MarkChains();
        for (int call = 0; call < CALLS; call++) {
            int step = call % 6;
            if (step < 5) {
                // d1;d1;d1; and so on: twenty acts a time
                x.feed(0x64313b64, 0x313b6431, 0x3b64313b, step == 4 ? 0 : 0x64313b64, 0x313b6431);
                x.end(x.is(7) - (step == 4 ? 8 : 2));
            } else {
                x.acts();
            }
        }
    }

    private static void questions() {
        Rig r = new Rig();
        r.text("e1,-1;p0,0;a0,0;a0,1;");
        for (int k = 0; k < 60; k++) {
            r.text("m0," + k % 2 + ",0,0,0," + (k + 1) + ",0,0,0;");
            r.x.ratify(k);
        }
        r.score("v*v-v/2+g");
        for (int call = 0; call < CALLS; call++) {
            r.x.stands(59, call % 4);
            r.x.holding(-1);
            r.x.champion(0, 0);
            r.x.altered(0, 0, 0, 0);
            r.x.write(0, 0, 0);
        }
    }
}
