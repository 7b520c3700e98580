import java.lang.management.ManagementFactory;

/** All calls of a run live in one room, so the calls, unlike the constructor, make nothing. */
public final class RoomTest {
    private static final Check CHECK = new Check("RoomTest");
    private static final com.sun.management.ThreadMXBean THREADS =
        (com.sun.management.ThreadMXBean) ManagementFactory.getThreadMXBean();

    public static void main(String[] args) {
        ChannelTracks x = Check.channel("dcbcebbd/bebcaabb");
        calls(x);
        long before = THREADS.getCurrentThreadAllocatedBytes();
        for (int run = 0; run < 100; run++) {
            calls(x);
        }
        long made = THREADS.getCurrentThreadAllocatedBytes() - before;
        CHECK.that("10000 calls made " + made + " bytes", made < 20000);
        before = THREADS.getCurrentThreadAllocatedBytes();
        ChannelTracks y = new ChannelTracks();
        made = THREADS.getCurrentThreadAllocatedBytes() - before;
        CHECK.that("a new object has " + made + " bytes", made < 10000);
        CHECK.is("count(0)", y.count(0), 0);
        CHECK.finish();
    }

    private static void calls(ChannelTracks x) {
        for (int i = 0; i < 5; i++) {
            x.turn(i);
            x.put(i, 1, i);
            x.cut(i, true);
            x.about(5);
            x.pack();
            x.best();
            x.ink(i);
            x.ring(i);
            x.zone(i);
            x.may(i, i + 1);
            x.cell(0, i, 1);
            x.digest();
            x.cut(i, false);
            x.set(i, 3);
            x.about(9);
            x.letter('p');
            x.fault(0);
            x.fault(1);
            x.say();
            x.clear();
        }
    }
}
