/** Promises 13 to 21: plans. */
public final class PlansTest {
    public static void main(String[] args) {
        green();
        hinders();
        dark();
        make();
        makeRefused();
        phase();
        greenOf();
        shows();
        picture();
        refusal();
        Check.end();
    }

    private static void green() {
        SignalRoad road = Check.roadWith(10, 4, 4);
        Check.due("13 first", road.green(0, 0, 0, 59, 55), 1);
        Check.due("13 second", road.green(0, 0, 1, 0, 4), 2);
        Check.due("13 in place of an earlier one", road.green(0, 0, 0, 10, 10), 2);
        Check.due("13 other plan", road.green(0, 1, 2, 0, 4), 1);
        Check.dueThrow("13 no junction", Check.INDEX, () -> road.green(1, 0, 0, 60, 0));
        Check.dueThrow("13 no plan", Check.INDEX, () -> road.green(0, 2, 0, 60, 0));
        Check.dueThrow("13 negative plan", Check.INDEX, () -> road.green(0, -1, 0, 60, 0));
        Check.dueThrow("13 no group", Check.INDEX, () -> road.green(0, 0, 3, 60, 0));
        Check.dueThrow("13 first too great", Check.ARGUMENT, () -> road.green(0, 0, 0, 60, 10));
        Check.dueThrow("13 first negative", Check.ARGUMENT, () -> road.green(0, 0, 0, -1, 10));
        Check.dueThrow("13 length 0", Check.ARGUMENT, () -> road.green(0, 0, 0, 0, 0));
        Check.dueThrow("13 length too great", Check.ARGUMENT, () -> road.green(0, 0, 0, 0, 61));
        Check.dueThrow("13 too short", Check.REFUSED, () -> road.green(0, 0, 0, 0, 9));
        Check.due("13 reason 1", road.refusal(), 1);
        Check.dueThrow("13 too long", Check.REFUSED, () -> road.green(0, 0, 0, 0, 60));
        Check.due("13 reason 2", road.refusal(), 2);
        Check.due("13 the earlier green stays", road.greenOf(0, 0, 0, false), 10);
        road.change(0);
        Check.dueThrow("13 change is planned", Check.STATE, () -> road.green(0, 0, 0, 0, 9));
        Check.dueThrow("13 argument goes first", Check.ARGUMENT, () -> road.green(0, 0, 0, 0, 0));
        Check.due("13 the reason stays", road.refusal(), 2);
    }

    private static void hinders() {
        SignalRoad road = Check.roadWith(10, 4, 4, 4);
        road.conflict(0, 0, 1, 3, 5);
        road.conflict(0, 0, 2, 0, 0);
        road.green(0, 0, 1, 50, 15);
        road.green(0, 0, 2, 30, 6);
        road.green(0, 0, 3, 0, 50);
        Check.due("14 none", road.hinders(0, 0, 0, 10, 20), 0);
        Check.due("14 next to a clearance of 0", road.hinders(0, 0, 0, 36, 11), 0);
        Check.due("14 too short", road.hinders(0, 0, 0, 50, 9), 1);
        Check.due("14 the shortest one", road.hinders(0, 0, 0, 10, 1), 1);
        Check.due("14 too long", road.hinders(0, 0, 0, 50, 56), 2);
        Check.due("14 the longest one", road.hinders(0, 0, 3, 59, 60), 2);
        Check.due("14 on together beyond the end of the cycle", road.hinders(0, 0, 0, 4, 10), 3);
        Check.due("14 around the other one", road.hinders(0, 0, 0, 20, 20), 3);
        Check.due("14 within the other one", road.hinders(0, 0, 0, 51, 10), 3);
        Check.due("14 too soon after", road.hinders(0, 0, 0, 9, 10), 4);
        Check.due("14 just late enough", road.hinders(0, 0, 0, 10, 10), 0);
        Check.due("14 too soon before", road.hinders(0, 0, 0, 37, 11), 5);
        Check.due("14 just soon enough", road.hinders(0, 0, 0, 37, 10), 0);
        Check.due("14 a group in conflict by the other plan does not count", road.hinders(0, 1, 0, 50, 10), 0);
        Check.due("14 3 of a later group goes before 4", road.hinders(0, 0, 0, 9, 22), 3);
        Check.due("14 its own green does not count", road.hinders(0, 0, 1, 51, 15), 0);
        Check.dueThrow("14 no junction", Check.INDEX, () -> road.hinders(-1, 0, 0, 0, 0));
        Check.dueThrow("14 no plan", Check.INDEX, () -> road.hinders(0, 2, 0, 0, 0));
        Check.dueThrow("14 no group", Check.INDEX, () -> road.hinders(0, 0, 4, 0, 0));
        Check.dueThrow("14 first too great", Check.ARGUMENT, () -> road.hinders(0, 0, 0, 60, 1));
        Check.dueThrow("14 length too great", Check.ARGUMENT, () -> road.hinders(0, 0, 0, 0, 61));
        Check.dueThrow("14 nothing is kept", Check.NONE, road::refusal);
        road.change(0);
        Check.due("14 also while a change is planned", road.hinders(0, 0, 0, 50, 9), 1);
    }

    private static void dark() {
        SignalRoad road = Check.roadWith(4, 4);
        road.green(0, 1, 0, 5, 17);
        Check.due("15 other plan", road.dark(0, 0, 0), 0);
        Check.due("15 with a green", road.dark(0, 1, 0), 17);
        Check.due("15 without one", road.dark(0, 1, 0), 0);
        Check.due("15 it is gone", road.account(3), 0);
        Check.dueThrow("15 no junction", Check.INDEX, () -> road.dark(1, 0, 0));
        Check.dueThrow("15 no plan", Check.INDEX, () -> road.dark(0, 2, 0));
        Check.dueThrow("15 no group", Check.INDEX, () -> road.dark(0, 0, 2));
        road.change(0);
        Check.dueThrow("15 change is planned", Check.STATE, () -> road.dark(0, 0, 0));
    }

    private static void dueGreen(String what, SignalRoad road, int group, int first, int length) {
        Check.due("16 " + what + ", first of " + group, road.greenOf(0, 0, group, false), first);
        Check.due("16 " + what + ", length of " + group, road.greenOf(0, 0, group, true), length);
    }

    private static void make() {
        SignalRoad alone = Check.roadWith(10, 12);
        Check.due("16 one phase", alone.make(0, 0), 1);
        dueGreen("no longer than the cycle minus 5", alone, 0, 0, 55);
        dueGreen("no longer than the cycle minus 5", alone, 1, 0, 55);
        SignalRoad road = Check.roadWith(5, 6, 7, 8);
        road.conflict(0, 0, 1, 2, 9);
        road.conflict(0, 1, 2, 3, 4);
        road.conflict(0, 2, 0, 6, 1);
        road.conflict(0, 3, 2, 7, 5);
        road.green(0, 0, 3, 20, 20);
        // Phases {0, 3}, {1}, {2}: 8 + 2 + 6 + 3 + 7 + 6 = 32, and 28 more are 10, 9 and 9.
        Check.due("16 three phases", road.make(0, 0), 3);
        dueGreen("first phase", road, 0, 0, 18);
        dueGreen("second phase", road, 1, 20, 15);
        dueGreen("third phase", road, 2, 38, 16);
        dueGreen("first phase", road, 3, 0, 18);
        Check.due("16 only this plan", road.shows(0, 1, 0), 0);
        SignalRoad exact = Check.roadWith(20, 20);
        exact.conflict(0, 0, 1, 10, 10);
        Check.due("16 nothing is left", exact.make(0, 0), 2);
        dueGreen("nothing is left", exact, 1, 30, 20);
        SignalRoad greatLeast = Check.roadWith(26, 4);
        greatLeast.cycle(30);
        greatLeast.conflict(0, 0, 1, 0, 0);
        Check.due("16 a least green longer than the cycle minus 5", greatLeast.make(0, 0), 2);
        dueGreen("long least green", greatLeast, 0, 0, 26);
        dueGreen("beside a long least green", greatLeast, 1, 26, 4);
        SignalRoad whole = Check.roadWith(26);
        whole.cycle(30);
        whole.make(0, 0);
        dueGreen("nothing is added to a long least green", whole, 0, 0, 26);
        SignalRoad uneven = Check.roadWith(24, 4);
        uneven.cycle(30);
        uneven.conflict(0, 0, 1, 0, 0);
        uneven.make(0, 0);
        dueGreen("the first one is full after one second", uneven, 0, 0, 25);
        dueGreen("the second one takes the rest", uneven, 1, 25, 5);
    }

    private static void makeRefused() {
        SignalRoad road = new SignalRoad();
        road.junction(0);
        Check.dueThrow("16 no groups", Check.STATE, () -> road.make(0, 0));
        Check.dueThrow("16 no plan", Check.INDEX, () -> road.make(0, 2));
        Check.dueThrow("16 no junction", Check.INDEX, () -> road.make(1, 0));
        SignalRoad over = Check.roadWith(20, 20);
        over.make(0, 0);
        over.dark(0, 0, 0);
        over.conflict(0, 0, 1, 11, 10);
        Check.dueThrow("16 more than the cycle", Check.REFUSED, () -> over.make(0, 0));
        Check.due("16 reason 6", over.refusal(), 6);
        Check.due("16 the plan stays", over.greenOf(0, 0, 1, true), 55);
        over.change(0);
        Check.dueThrow("16 change is planned", Check.STATE, () -> over.make(0, 0));
        SignalRoad clash = Check.roadWith(4, 4, 4);
        clash.cycle(30);
        clash.conflict(0, 0, 1, 0, 0);
        clash.conflict(0, 1, 2, 0, 0);
        clash.conflict(0, 0, 2, 11, 0);
        Check.dueThrow("16 phases that are not next to one another", Check.REFUSED, () -> clash.make(0, 1));
        Check.due("16 reason 7", clash.refusal(), 7);
        Check.due("16 nothing is given", clash.account(3), 0);
        clash.conflict(0, 0, 2, 10, 0);
        Check.due("16 just far enough", clash.make(0, 1), 3);
        clash.dark(0, 1, 1);
        clash.conflict(0, 1, 0, 11, 0);
        Check.dueThrow("16 the other way round", Check.REFUSED, () -> clash.make(0, 1));
        Check.due("16 reason 7 again", clash.refusal(), 7);
    }

    private static void phase() {
        SignalRoad road = Check.roadWith(30, 30, 30, 30, 30, 30);
        for (int group = 0; group < 6; group++) {
            Check.due("17 no conflicts", road.phase(0, group), 0);
        }
        // Taken greedily, 0 and 1 would share a phase, and three would be needed.
        int[][] pairs = {{0, 3}, {0, 5}, {2, 1}, {2, 5}, {4, 1}, {4, 3}};
        for (int[] pair : pairs) {
            road.conflict(0, pair[0], pair[1], 0, 0);
        }
        int[] due = {0, 1, 0, 1, 0, 1};
        for (int group = 0; group < 6; group++) {
            Check.due("17 fewest phases, group " + group, road.phase(0, group), due[group]);
        }
        road.conflict(0, 0, 2, 20, 20);
        int[] more = {0, 0, 1, 1, 2, 2};
        for (int group = 0; group < 6; group++) {
            Check.due("17 first way, group " + group, road.phase(0, group), more[group]);
        }
        Check.dueThrow("17 make would be refused", Check.REFUSED, () -> road.make(0, 0));
        Check.due("17 all the same", road.phase(0, 5), 2);
        Check.dueThrow("17 no junction", Check.INDEX, () -> road.phase(1, 0));
        Check.dueThrow("17 no group", Check.INDEX, () -> road.phase(0, 6));
        SignalRoad all = Check.roadWith(4, 4, 4, 4, 4, 4);
        for (int one = 0; one < 6; one++) {
            for (int other = 0; other < one; other++) {
                all.conflict(0, one, other, 0, 0);
            }
        }
        Check.due("17 a phase for each", all.phase(0, 5), 5);
        Check.due("17 as many are made", all.make(0, 0), 6);
    }

    private static void greenOf() {
        SignalRoad road = Check.roadWith(4, 4);
        road.green(0, 1, 1, 13, 9);
        Check.due("18 first second", road.greenOf(0, 1, 1, false), 13);
        Check.due("18 length", road.greenOf(0, 1, 1, true), 9);
        Check.dueThrow("18 none in the other plan", Check.NONE, () -> road.greenOf(0, 0, 1, true));
        Check.dueThrow("18 none of the other group", Check.NONE, () -> road.greenOf(0, 1, 0, false));
        Check.dueThrow("18 no junction", Check.INDEX, () -> road.greenOf(1, 1, 1, true));
        Check.dueThrow("18 no plan", Check.INDEX, () -> road.greenOf(0, -1, 1, true));
        Check.dueThrow("18 no group", Check.INDEX, () -> road.greenOf(0, 1, 2, true));
    }

    private static void shows() {
        SignalRoad road = Check.roadWith(4, 4, 4);
        road.green(0, 0, 0, 50, 20);
        road.green(0, 0, 2, 9, 6);
        road.offset(0, 30);
        Check.due("19 both", road.shows(0, 0, 9), 5);
        Check.due("19 behind the end of one", road.shows(0, 0, 10), 4);
        Check.due("19 last second", road.shows(0, 0, 14), 4);
        Check.due("19 none", road.shows(0, 0, 15), 0);
        Check.due("19 none yet", road.shows(0, 0, 49), 0);
        Check.due("19 at the end of the cycle", road.shows(0, 0, 59), 1);
        Check.due("19 other plan", road.shows(0, 1, 9), 0);
        Check.dueThrow("19 no junction", Check.INDEX, () -> road.shows(1, 0, 60));
        Check.dueThrow("19 no plan", Check.INDEX, () -> road.shows(0, 2, 60));
        Check.dueThrow("19 second too great", Check.ARGUMENT, () -> road.shows(0, 0, 60));
        Check.dueThrow("19 second negative", Check.ARGUMENT, () -> road.shows(0, 0, -1));
    }

    private static void picture() {
        SignalRoad road = Check.roadWith(4, 4, 4);
        Check.due("20 only the empty set", road.picture(0, 0, -1), 1);
        Check.due("20 the empty set", road.picture(0, 0, 0), 0);
        road.green(0, 0, 0, 55, 10);
        road.green(0, 0, 1, 3, 7);
        road.green(0, 0, 2, 20, 4);
        int[] sets = {1, 3, 2, 0, 4};
        Check.due("20 number", road.picture(0, 0, -1), sets.length);
        for (int index = 0; index < sets.length; index++) {
            Check.due("20 set " + index, road.picture(0, 0, index), sets[index]);
        }
        Check.dueThrow("20 index too great", Check.NONE, () -> road.picture(0, 0, 5));
        Check.dueThrow("20 index too small", Check.NONE, () -> road.picture(0, 0, -2));
        Check.dueThrow("20 no junction", Check.INDEX, () -> road.picture(1, 0, 9));
        Check.dueThrow("20 no plan", Check.INDEX, () -> road.picture(0, 2, 9));
        SignalRoad six = Check.roadWith(4, 4, 4, 4, 4, 4);
        for (int group = 0; group < 6; group++) {
            six.green(0, 1, group, 0, 50);
        }
        Check.due("20 all six", six.picture(0, 1, 0), 63);
        Check.due("20 then none", six.picture(0, 1, 1), 0);
    }

    private static void refusal() {
        SignalRoad road = Check.roadWith(4, 4);
        Check.dueThrow("21 nothing yet", Check.NONE, road::refusal);
        Check.dueThrow("21 green", Check.REFUSED, () -> road.green(0, 0, 0, 0, 3));
        Check.due("21 by a call", road.refusal(), 1);
        Check.dueThrow("21 command", Check.STATE, () -> Check.carryOut(road, "green:0,0,0,0,56;"));
        Check.due("21 by a command", road.refusal(), 2);
        road.green(0, 0, 0, 0, 4);
        Check.due("21 stays when something is not refused", road.refusal(), 2);
        road.undo();
        Check.due("21 does not go back", road.refusal(), 2);
        Check.dueThrow("21 other exceptions", Check.ARGUMENT, () -> road.green(0, 0, 0, 0, 0));
        Check.due("21 keep no reason", road.refusal(), 2);
    }
}
