/** Promises 1 to 7: a new object and the road. */
public final class RoadTest {
    public static void main(String[] args) {
        newObject();
        cycle();
        speed();
        junction();
        offset();
        road();
        told();
        Check.end();
    }

    private static void newObject() {
        SignalRoad road = new SignalRoad();
        int[] first = {0, 0, 0, 0, 0, 0, 0, 0, 0, 0, 0, 60, 14, 0, 0};
        for (int what = 0; what < first.length; what++) {
            Check.due("1 account " + what, road.account(what), first[what]);
        }
        Check.due("1 error position", road.errorPosition(), -1);
        Check.dueThrow("1 no junction", Check.INDEX, () -> road.told(0, 0));
        Check.dueThrow("1 nothing refused", Check.NONE, road::refusal);
        Check.dueThrow("1 nothing to undo", Check.STATE, road::undo);
        Check.dueThrow("1 nothing saved", Check.STATE, road::restore);
        Check.dueThrow("1 empty report", Check.INDEX, () -> road.character(0));
        Check.dueThrow("1 no trips", Check.NONE, () -> road.band(0));
    }

    private static void cycle() {
        SignalRoad road = Check.roadWith(4, 4);
        Check.due("2 least", road.cycle(30), 60);
        Check.due("2 most", road.cycle(120), 30);
        Check.dueThrow("2 too small", Check.ARGUMENT, () -> road.cycle(29));
        Check.dueThrow("2 too great", Check.ARGUMENT, () -> road.cycle(121));
        road.offset(0, 59);
        Check.dueThrow("2 offset would be too great", Check.STATE, () -> road.cycle(59));
        Check.due("2 offset fits", road.cycle(60), 120);
        road.green(0, 1, 1, 0, 10);
        Check.dueThrow("2 green in plan 1", Check.STATE, () -> road.cycle(60));
        Check.dueThrow("2 argument goes first", Check.ARGUMENT, () -> road.cycle(0));
        road.dark(0, 1, 1);
        road.green(0, 0, 0, 0, 10);
        Check.dueThrow("2 green in plan 0", Check.STATE, () -> road.cycle(60));
        road.dark(0, 0, 0);
        Check.due("2 no green any more", road.cycle(61), 60);
        road.change(0);
        Check.dueThrow("2 change is planned", Check.STATE, () -> road.cycle(60));
        road.run(1);
        Check.due("2 change is over", road.cycle(60), 61);
        Check.due("2 it stands", road.account(11), 60);
        road.undo();
        Check.due("2 it goes back", road.account(11), 61);
        for (int position = 1; position < 4; position++) {
            road.junction(position);
        }
        Check.due("2 with four junctions", road.cycle(70), 61);
    }

    private static void speed() {
        SignalRoad road = new SignalRoad();
        Check.due("3 least", road.speed(5), 14);
        Check.due("3 most", road.speed(25), 5);
        Check.dueThrow("3 too small", Check.ARGUMENT, () -> road.speed(4));
        Check.dueThrow("3 too great", Check.ARGUMENT, () -> road.speed(26));
        Check.due("3 it stands", road.account(12), 25);
    }

    private static void junction() {
        SignalRoad road = new SignalRoad();
        Check.dueThrow("4 too small", Check.ARGUMENT, () -> road.junction(-1));
        Check.dueThrow("4 too great", Check.ARGUMENT, () -> road.junction(10000));
        Check.due("4 first", road.junction(0), 0);
        Check.dueThrow("4 same position", Check.ARGUMENT, () -> road.junction(0));
        Check.due("4 second", road.junction(1), 1);
        Check.due("4 third", road.junction(9998), 2);
        Check.dueThrow("4 less", Check.ARGUMENT, () -> road.junction(9997));
        Check.due("4 last", road.junction(9999), 3);
        Check.dueThrow("4 argument goes first", Check.ARGUMENT, () -> road.junction(9999));
        SignalRoad full = new SignalRoad();
        for (int k = 0; k < 4; k++) {
            full.junction(k);
        }
        Check.dueThrow("4 four are there", Check.STATE, () -> full.junction(4));
        Check.due("4 count", full.account(0), 4);
    }

    private static void offset() {
        SignalRoad road = Check.roadWith(4);
        Check.due("5 first", road.offset(0, 59), 0);
        Check.due("5 previous", road.offset(0, 7), 59);
        Check.dueThrow("5 no junction", Check.INDEX, () -> road.offset(1, 70));
        Check.dueThrow("5 negative junction", Check.INDEX, () -> road.offset(-1, 0));
        Check.dueThrow("5 too great", Check.ARGUMENT, () -> road.offset(0, 60));
        Check.dueThrow("5 negative", Check.ARGUMENT, () -> road.offset(0, -1));
        Check.due("5 local second", road.told(0, 3), 53);
        road.change(0);
        Check.dueThrow("5 change is planned", Check.STATE, () -> road.offset(0, 7));
        Check.dueThrow("5 argument goes first", Check.ARGUMENT, () -> road.offset(0, 60));
        road.junction(10);
        Check.due("5 a change elsewhere is no hindrance", road.offset(1, 1), 0);
    }

    private static void road() {
        SignalRoad road = Check.roadWith(4, 4, 4);
        Check.due("6 none before", road.road(0, 2, 1), -1);
        Check.due("6 previous", road.road(0, 0, 0), 21);
        Check.due("6 both 0", road.road(0, 1, 2), 0);
        Check.dueThrow("6 no junction", Check.INDEX, () -> road.road(1, 0, 0));
        Check.dueThrow("6 no group there", Check.INDEX, () -> road.road(0, 3, 0));
        Check.dueThrow("6 no group back", Check.INDEX, () -> road.road(0, 0, -1));
        Check.due("6 unchanged", road.road(0, 0, 0), 12);
    }

    private static void told() {
        SignalRoad road = new SignalRoad();
        road.junction(300);
        road.junction(400);
        road.group(1, 0, 4, false);
        road.group(1, 1, 4, true);
        road.group(1, 1, 4, true);
        road.conflict(1, 0, 1, 2, 3);
        road.offset(1, 20);
        road.green(1, 0, 0, 40, 10);
        road.green(1, 0, 2, 40, 10);
        road.green(1, 1, 1, 40, 10);
        road.press(1, 2);
        Check.due("7 position", road.told(1, 0), 400);
        Check.due("7 offset", road.told(1, 1), 20);
        Check.due("7 groups", road.told(1, 2), 3);
        Check.due("7 local second", road.told(1, 3), 40);
        Check.due("7 plan", road.told(1, 4), 0);
        Check.due("7 no change planned", road.told(1, 5), -1);
        Check.due("7 conflicts", road.told(1, 6), 1);
        Check.due("7 lit: the requested one, too", road.told(1, 7), 5);
        Check.due("7 nothing was served by asking", road.groupTold(1, 2, 5), 0);
        road.run(1);
        Check.due("7 lit: given goes on", road.told(1, 7), 5);
        road.run(60);
        Check.due("7 lit: not given without a request", road.told(1, 7), 1);
        Check.dueThrow("7 no junction", Check.INDEX, () -> road.told(2, 8));
        Check.dueThrow("7 what too great", Check.ARGUMENT, () -> road.told(1, 8));
        Check.dueThrow("7 what negative", Check.ARGUMENT, () -> road.told(1, -1));
        toldWithPlannedChange();
    }

    private static void toldWithPlannedChange() {
        SignalRoad road = new SignalRoad();
        road.junction(0);
        road.group(0, 1, 4, true);
        road.group(0, 1, 4, false);
        road.green(0, 0, 0, 0, 10);
        road.green(0, 1, 0, 55, 20);
        road.green(0, 1, 1, 0, 20);
        road.press(0, 0);
        road.run(5);
        Check.due("7 given before the change", road.told(0, 7), 1);
        Check.due("7 change now", road.change(0), 0);
        Check.due("7 planned for now", road.told(0, 5), 5);
        Check.due("7 present plan until then", road.told(0, 4), 0);
        Check.due("7 lit with the change: none is given", road.told(0, 7), 2);
        road.run(1);
        Check.due("7 plan after the change", road.told(0, 4), 1);
        Check.due("7 nothing planned after it", road.told(0, 5), -1);
    }
}
