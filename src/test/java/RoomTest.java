import java.lang.management.ManagementFactory;

/**
 * All calls of a run live in one room, so rows are made in the constructor alone: calls that throw
 * nothing make no objects.
 */
public final class RoomTest {
    private static final com.sun.management.ThreadMXBean THREADS =
            (com.sun.management.ThreadMXBean) ManagementFactory.getThreadMXBean();
    /** What the counter of bytes may take itself; less than an object for each of the ten times that a call is made. */
    private static final long SPARE_BYTES = 128;
    /** Far below the room for 7.3 million elements. */
    private static final long MOST_BYTES_OF_ROAD = 64 * 1024;

    public static void main(String[] args) {
        long[] least = {Long.MAX_VALUE, Long.MAX_VALUE};
        for (int round = 0; round < 5; round++) {
            measure(least);
        }
        Check.due("bytes of a road", Math.max(MOST_BYTES_OF_ROAD, least[0]), MOST_BYTES_OF_ROAD);
        Check.due("bytes of calls", Math.max(SPARE_BYTES, least[1]), SPARE_BYTES);
        Check.end();
    }

    private static long bytes() {
        return THREADS.getCurrentThreadAllocatedBytes();
    }

    /** The first rounds can take more, while the machine loads its classes. */
    private static void measure(long[] least) {
        long start = bytes();
        SignalRoad road = new SignalRoad();
        least[0] = Math.min(least[0], bytes() - start);
        build(road);
        start = bytes();
        for (int k = 0; k < 10; k++) {
            callAll(road);
        }
        least[1] = Math.min(least[1], bytes() - start);
    }

    private static void build(SignalRoad road) {
        for (int j = 0; j < 4; j++) {
            road.junction(100 * j);
            for (int g = 0; g < 5; g++) {
                road.group(j, 2, 4, g > 0);
            }
            road.conflict(j, 0, 1, 3, 3);
            road.make(j, 0);
            road.make(j, 1);
            road.road(j, 0, 1);
        }
        road.save();
    }

    private static void callAll(SignalRoad road) {
        road.restore();
        road.speed(20);
        road.group(0, 2, 4, false);
        road.conflict(0, 2, 5, 0, 0);
        road.phase(0, 1);
        road.hinders(0, 0, 1, 2, 10);
        road.picture(0, 0, -1);
        road.trip(0, 77, 0);
        road.tripAgain(1, 77);
        road.bestOffset(2, 0);
        road.share(1);
        road.press(1, 1);
        road.run(300);
        road.soonest(2);
        road.change(2);
        road.mount(3, 0, 0, 3);
        for (int what = 0; what < 15; what++) {
            road.account(what);
        }
        road.litShare(0, 0);
        road.meanWait();
        road.append(0x72756e3a);
        road.append(0x3330303b);
        road.append(0x70726573);
        road.append(0x733a302c);
        road.append(0x313b0000);
        road.text();
        road.report(3);
        road.character(0);
        road.undo();
    }
}
