import java.lang.management.ManagementFactory;

/**
 * All that the calls of one run make stays in one room, so no call may make much: here 512 of each of the dearest
 * calls are held against a bound far below that room.
 */
public final class RoomTest {
    private static final Expect expect = new Expect();
    private static final com.sun.management.ThreadMXBean threads =
        (com.sun.management.ThreadMXBean) ManagementFactory.getThreadMXBean();
    private static final int CALLS = 512;
    private static final long BYTES_A_CALL = 600;
    private static final long BYTES_A_NEW_OBJECT = 16_000;

    public static void main(String[] args) {
        expect.part("room");
        String[] names = {
            "of", "told(6)", "pass", "on", "full", "best", "had", "can", "odds", "mean", "ends", "works", "image",
            "undo", "act", "tape", "item", "shift"
        };
        for (int which = 0; which < names.length; which++) {
            PunchedSouls souls = busy();
            long before = bytes();
            for (int i = 0; i < CALLS; i++) {
                call(souls, which);
            }
            long made = bytes() - before;
            expect.holds(names[which] + " makes " + made + " bytes by " + CALLS, made <= CALLS * BYTES_A_CALL);
        }
        long before = bytes();
        new PunchedSouls();
        long made = bytes() - before;
        expect.holds("a new object takes " + made + " bytes", made <= BYTES_A_NEW_OBJECT);
        expect.end();
    }

    private static long bytes() {
        return threads.getThreadAllocatedBytes(Thread.currentThread().getId());
    }

    private static PunchedSouls busy() {
        PunchedSouls souls = Runs.souls(6, 5, 4, 3, 2, 1);
        Runs.works(souls, "glad 9 ((((p=1))))|!c=2&h>3;sour 9 v=3;round 3");
        souls.see(5, 0, 0);
        souls.see(5, souls.on(20, 15), 20);
        souls.tape(0, 1, 60);
        souls.image();
        return souls;
    }

    private static long call(PunchedSouls souls, int which) {
        switch (which) {
            case 0: return souls.of(0, 10);
            case 1: return souls.told(6);
            case 2: return souls.pass(19);
            case 3: return souls.on(60, 0);
            case 4: return souls.full(5, 10);
            case 5: return souls.best(15);
            case 6: return souls.had(5);
            case 7: return souls.can(5, 1);
            case 8: return souls.odds(60, 60, 0);
            case 9: return souls.mean(60, 0);
            case 10: return souls.ends(1);
            case 11: return souls.feed('g') + souls.works();
            case 12: return souls.image();
            case 13: return souls.undo();
            case 14: return souls.act(0, 2, 3);
            case 15: return souls.tape(1, 3, 60);
            case 16: return souls.item(0, 5, 1);
            default: return souls.shift(0, 0, 0, 1, 59);
        }
    }
}
