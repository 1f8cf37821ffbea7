/** Promises 22 to 26: trips and bands. */
public final class TripsTest {
    public static void main(String[] args) {
        trip();
        tripIsNotPossible();
        tripAgain();
        band();
        bestOffset();
        share();
        Check.end();
    }

    /** Junctions at 0, 100 and 201, speed 10, greens of 20 seconds from 0, 5 and 35 on. */
    private static SignalRoad road() {
        SignalRoad road = new SignalRoad();
        int[] positions = {0, 100, 201};
        int[] firsts = {0, 5, 35};
        road.speed(10);
        for (int k = 0; k < 3; k++) {
            road.junction(positions[k]);
            road.group(k, 0, 4, true);
            road.group(k, 0, 4, false);
            road.green(k, 0, 1, firsts[k], 20);
            road.road(k, 1, 1);
        }
        return road;
    }

    private static void dueTrip(SignalRoad road, int direction, int time, int[] due) {
        for (int what = 0; what < 3; what++) {
            String name = "22 direction " + direction + " at " + time + ", " + what;
            Check.due(name, road.trip(direction, time, what), due[what]);
        }
    }

    private static void trip() {
        SignalRoad road = road();
        // 0 at once, 10 at once, 21 waits for 35.
        dueTrip(road, 0, 0, new int[] {35, 1, 14});
        // 14 at once, 24 is the last second of the green, 35 at once.
        dueTrip(road, 0, 14, new int[] {21, 0, 0});
        // 15, then 25 is too late and waits for 65, 76 waits for 95.
        dueTrip(road, 0, 15, new int[] {80, 2, 59});
        // 20 waits for 60, 70, 81 waits for 95.
        dueTrip(road, 0, 20, new int[] {75, 2, 54});
        // 35, 46 waits for 65, 75.
        dueTrip(road, 1, 35, new int[] {40, 1, 19});
        // 99999 is the local second 39: waits for 60, 70, 81 waits for 95.
        dueTrip(road, 0, 99999, new int[] {56, 2, 35});
        road.offset(0, 1);
        // 0 is the local second 59 there: waits for 1, 11, 22 waits for 35.
        dueTrip(road, 0, 0, new int[] {35, 2, 14});
        road.change(0);
        dueTrip(road, 0, 0, new int[] {35, 2, 14});
        Check.dueThrow("22 no direction", Check.ARGUMENT, () -> road.trip(2, 0, 0));
        Check.dueThrow("22 negative direction", Check.ARGUMENT, () -> road.trip(-1, 0, 0));
        Check.dueThrow("22 time too great", Check.ARGUMENT, () -> road.trip(0, 100000, 0));
        Check.dueThrow("22 negative time", Check.ARGUMENT, () -> road.trip(0, -1, 0));
        Check.dueThrow("22 what too great", Check.ARGUMENT, () -> road.trip(0, 0, 3));
        Check.dueThrow("22 what negative", Check.ARGUMENT, () -> road.trip(0, 0, -1));
        SignalRoad slow = new SignalRoad();
        slow.speed(5);
        slow.cycle(120);
        int[] far = {0, 1, 5000, 9999};
        for (int k = 0; k < 4; k++) {
            slow.junction(far[k]);
            slow.group(k, 0, 4, false);
            slow.green(k, 0, 0, 0, 4);
            slow.road(k, 0, 0);
        }
        // 120, 121, 1121 waits for 1200, 2200 waits for 2280.
        dueTrip(slow, 0, 4, new int[] {2276, 3, 275});
        Check.due("23 the longest way", slow.tripAgain(0, 4), 2276);
        SignalRoad requested = Check.roadWith(4);
        requested.group(0, 0, 4, true);
        requested.green(0, 0, 1, 0, 10);
        requested.road(0, 0, 1);
        Check.due("22 requests do not matter", requested.trip(1, 3, 0), 0);
    }

    private static void tripIsNotPossible() {
        SignalRoad none = new SignalRoad();
        Check.dueThrow("22 no junction", Check.NONE, () -> none.trip(0, 0, 0));
        Check.dueThrow("22 argument goes first", Check.ARGUMENT, () -> none.trip(0, 0, 3));
        SignalRoad road = road();
        road.road(1, 1, 0);
        Check.dueThrow("22 no green on the way back", Check.NONE, () -> road.trip(1, 0, 0));
        Check.due("22 but there", road.trip(0, 14, 0), 21);
        road.green(1, 1, 0, 0, 10);
        Check.dueThrow("22 green by the other plan only", Check.NONE, () -> road.trip(1, 0, 0));
        road.junction(500);
        Check.dueThrow("22 no group of the road", Check.NONE, () -> road.trip(0, 0, 0));
        road.undo();
        road.change(1);
        road.run(1);
        Check.dueThrow("22 not by the new present plan", Check.NONE, () -> road.trip(0, 0, 0));
        // 35, 46 waits for 60, 70.
        Check.due("22 by the new present plan", road.trip(1, 35, 0), 35);
    }

    private static void tripAgain() {
        SignalRoad road = road();
        Check.due("23 like trip", road.tripAgain(0, 15), 80);
        Check.due("23 without a wait", road.tripAgain(0, 14), 21);
        Check.due("23 back", road.tripAgain(1, 35), 40);
        for (int time = 0; time < 60; time++) {
            Check.due("23 there at " + time, road.tripAgain(0, time), road.trip(0, time, 0));
            Check.due("23 back at " + time, road.tripAgain(1, time), road.trip(1, time, 0));
        }
        SignalRoad rounded = new SignalRoad();
        rounded.speed(10);
        for (int k = 0; k < 2; k++) {
            rounded.junction(101 * k);
            rounded.group(k, 0, 4, false);
            rounded.green(k, 0, 0, 0, 55);
            rounded.road(k, 0, 0);
        }
        Check.due("22 rounded up", rounded.trip(0, 0, 0), 11);
        Check.due("23 rounded up", rounded.tripAgain(0, 0), 11);
        Check.dueThrow("23 no direction", Check.ARGUMENT, () -> road.tripAgain(2, 0));
        Check.dueThrow("23 time too great", Check.ARGUMENT, () -> road.tripAgain(0, 100000));
        Check.dueThrow("23 negative time", Check.ARGUMENT, () -> road.tripAgain(0, -1));
        Check.dueThrow("23 no junction", Check.NONE, () -> new SignalRoad().tripAgain(0, 0));
    }

    private static void band() {
        SignalRoad road = road();
        // Starts 0 to 14 pass the second one, and only 14 the third one.
        Check.due("24 there", road.band(0), 1);
        // Only 54 comes to the second one at 65, the first second of its next green.
        Check.due("24 back", road.band(1), 1);
        road.offset(0, 20);
        Check.due("24 none", road.band(1), 0);
        road.offset(0, 0);
        road.offset(2, 50);
        // The third one is on at 25 to 44 then: starts 4 to 14.
        Check.due("24 there with an offset", road.band(0), 11);
        SignalRoad alone = Check.roadWith(4);
        alone.green(0, 0, 0, 50, 55);
        alone.road(0, 0, 0);
        Check.due("24 one junction", alone.band(1), 55);
        Check.dueThrow("24 no direction", Check.ARGUMENT, () -> road.band(2));
        Check.dueThrow("24 argument goes first", Check.ARGUMENT, () -> new SignalRoad().band(-1));
        Check.dueThrow("24 no junction", Check.NONE, () -> new SignalRoad().band(0));
    }

    private static void bestOffset() {
        SignalRoad road = road();
        // The third one must be on at 21 to 35 for the starts 0 to 14: from 16, 17, .. 21 on.
        Check.due("25 the least of the best", road.bestOffset(2, 0), 41);
        Check.due("25 all stays", road.told(2, 1), 0);
        Check.due("25 also the changes", road.account(13), 8);
        road.offset(2, 41);
        Check.due("25 the band then", road.band(0), 15);
        // The second one is on for the starts 55 to 14 and the third one at 16 to 35 as well.
        Check.due("25 the first one in this direction", road.bestOffset(0, 0), 55);
        SignalRoad narrow = road();
        narrow.offset(2, 5);
        // The others let the start 19 pass alone; it comes to the second one at 29.
        Check.due("25 a band of one second", narrow.bestOffset(1, 0), 5);
        SignalRoad never = road();
        never.offset(0, 30);
        Check.due("25 no band at all", never.bestOffset(2, 0), 0);
        Check.dueThrow("25 no junction", Check.INDEX, () -> road.bestOffset(3, 2));
        Check.dueThrow("25 no direction", Check.ARGUMENT, () -> road.bestOffset(0, 2));
        road.dark(1, 0, 1);
        Check.dueThrow("25 not possible", Check.NONE, () -> road.bestOffset(0, 0));
        Check.dueThrow("25 argument goes first", Check.ARGUMENT, () -> road.bestOffset(0, -1));
    }

    private static void share() {
        SignalRoad road = road();
        road.offset(2, 50);
        Check.due("26 bits", Float.floatToIntBits(road.share(0)), Float.floatToIntBits(11f / 60f));
        Check.due("26 none", Float.floatToIntBits(road.share(1)), Float.floatToIntBits(road.band(1) / 60f));
        Check.dueThrow("26 no direction", Check.ARGUMENT, () -> (long) road.share(2));
        Check.dueThrow("26 no junction", Check.NONE, () -> (long) new SignalRoad().share(0));
    }
}
