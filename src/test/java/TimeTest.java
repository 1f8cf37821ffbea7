/** Promises 27 to 31: time, requests, changes of plans, heads. */
public final class TimeTest {
    public static void main(String[] args) {
        press();
        run();
        requestsAndPlans();
        timeEnds();
        soonest();
        change();
        mount();
        Check.end();
    }

    private static void press() {
        SignalRoad road = new SignalRoad();
        road.junction(0);
        road.junction(1);
        for (int k = 0; k < 3; k++) {
            road.group(0, 0, 4, k != 1);
            road.group(1, 0, 4, true);
        }
        Check.due("27 first", road.press(0, 0), 1);
        Check.due("27 another one", road.press(0, 2), 2);
        road.run(5);
        Check.due("27 again", road.press(0, 0), 2);
        Check.due("27 it waits from the first time on", road.groupTold(0, 0, 5), 0);
        Check.due("27 other junction", road.press(1, 1), 1);
        Check.due("27 time", road.groupTold(1, 1, 5), 5);
        Check.dueThrow("27 no junction", Check.INDEX, () -> road.press(2, 0));
        Check.dueThrow("27 no group", Check.INDEX, () -> road.press(0, 3));
        Check.dueThrow("27 not by request", Check.STATE, () -> road.press(0, 1));
        Check.due("27 all", road.account(7), 3);
    }

    private static void run() {
        SignalRoad road = new SignalRoad();
        road.junction(0);
        road.group(0, 0, 4, true);
        road.group(0, 0, 4, false);
        road.group(0, 0, 4, false);
        road.green(0, 0, 0, 10, 5);
        road.green(0, 0, 1, 58, 4);
        Check.dueThrow("28 no seconds", Check.ARGUMENT, () -> road.run(0));
        Check.dueThrow("28 too many", Check.ARGUMENT, () -> road.run(301));
        Check.due("28 before the green", road.run(10), 0);
        Check.due("28 lit at 0 and 1", road.groupTold(0, 1, 4), 2);
        road.press(0, 0);
        Check.due("28 served at once", road.run(1), 1);
        Check.due("28 waited for", road.account(8), 0);
        Check.due("28 lit for", road.groupTold(0, 0, 4), 1);
        road.press(0, 0);
        Check.due("28 not served within its green", road.run(59), 0);
        Check.due("28 lit to the end of its green", road.groupTold(0, 0, 4), 5);
        Check.due("28 given until the next one", road.groupTold(0, 0, 6), 1);
        Check.due("28 served in the next one", road.run(60), 1);
        Check.due("28 waited for 59", road.account(8), 59);
        Check.due("28 lit in both", road.groupTold(0, 0, 4), 10);
        Check.due("28 not requested any more", road.run(1), 0);
        Check.due("28 not given", road.groupTold(0, 0, 6), 0);
        Check.due("28 not lit", road.run(300), 0);
        Check.due("28 as before", road.groupTold(0, 0, 4), 10);
        Check.due("28 without a green", road.groupTold(0, 2, 4), 0);
        Check.due("28 time", road.account(4), 431);
    }

    /** What is given ends with a change of plans and stays when greens are changed. */
    private static void requestsAndPlans() {
        SignalRoad road = new SignalRoad();
        road.junction(0);
        road.group(0, 0, 4, true);
        road.green(0, 0, 0, 0, 30);
        road.green(0, 1, 0, 0, 30);
        road.press(0, 0);
        road.run(1);
        road.green(0, 0, 0, 20, 30);
        Check.due("28 given when its green is changed", road.groupTold(0, 0, 6), 1);
        road.dark(0, 0, 0);
        Check.due("28 given when its green is taken away", road.groupTold(0, 0, 6), 1);
        road.make(0, 0);
        Check.due("28 given when its green is made", road.groupTold(0, 0, 6), 1);
        road.offset(0, 11);
        Check.due("28 lit while given, without a first second", road.told(0, 7), 1);
        road.run(4);
        Check.due("28 so it is", road.groupTold(0, 0, 4), 5);
        road.change(0);
        Check.due("28 given before the change", road.groupTold(0, 0, 6), 1);
        road.run(1);
        Check.due("28 not given after it", road.groupTold(0, 0, 6), 0);
        road.offset(0, 0);
        road.press(0, 0);
        road.run(10);
        Check.due("28 not lit by the other plan", road.groupTold(0, 0, 4), 5);
        Check.due("28 still waiting", road.groupTold(0, 0, 5), 6);
    }

    private static void timeEnds() {
        SignalRoad road = Check.roadWith(4);
        for (int k = 0; k < 333; k++) {
            road.run(300);
        }
        road.run(98);
        Check.dueThrow("28 beyond the end", Check.STATE, () -> road.run(2));
        Check.dueThrow("28 argument goes first", Check.ARGUMENT, () -> road.run(301));
        Check.due("28 to the end", road.run(1), 0);
        Check.due("28 the end", road.account(4), 99999);
        Check.dueThrow("28 at the end", Check.STATE, () -> road.run(1));
        Check.due("28 local second", road.told(0, 3), 39);
        Check.due("30 a change at the end", road.change(0), 0);
        Check.due("30 planned for the end", road.told(0, 5), 99999);
    }

    private static SignalRoad twoPlans() {
        SignalRoad road = Check.roadWith(4, 4, 4);
        road.conflict(0, 0, 1, 6, 2);
        road.green(0, 0, 0, 0, 20);
        road.green(0, 0, 1, 30, 20);
        road.green(0, 1, 0, 30, 20);
        road.green(0, 1, 1, 0, 20);
        return road;
    }

    private static void soonest() {
        SignalRoad road = twoPlans();
        Check.due("29 before the green begins", road.soonest(0), 0);
        road.run(1);
        // Group 0 has been on, and group 1 would follow at once until 20; then it is on at 60 only.
        Check.due("29 at the end of the green", road.soonest(0), 19);
        road.run(19);
        Check.due("29 now", road.soonest(0), 0);
        road.run(11);
        // Now group 1 has been on, and group 0 would follow at once until 50.
        Check.due("29 the other group", road.soonest(0), 19);
        road.run(19);
        Check.due("29 now again", road.soonest(0), 0);
        road.offset(0, 49);
        Check.due("29 by local seconds", road.soonest(0), 19);
        SignalRoad clearance = Check.roadWith(4, 4);
        clearance.conflict(0, 0, 1, 6, 20);
        clearance.green(0, 0, 0, 0, 10);
        clearance.green(0, 1, 1, 0, 30);
        clearance.run(8);
        // Group 0 is on to 9, so that group 1 may be on from 16 on.
        Check.due("29 a clearance from the end of a green", clearance.soonest(0), 8);
        SignalRoad ahead = Check.roadWith(4, 4);
        ahead.conflict(0, 0, 1, 6, 20);
        ahead.green(0, 0, 0, 0, 10);
        ahead.green(0, 1, 1, 12, 10);
        ahead.run(6);
        // Changed at 6, group 0 is on to 5 and group 1 from 12 on.
        Check.due("29 a green is cut", ahead.soonest(0), 0);
        ahead.run(1);
        // Later, group 0 is on to 6 at least, and only from 16 on is group 1 late enough again.
        Check.due("29 a green is on later", ahead.soonest(0), 9);
        SignalRoad free = Check.roadWith(4, 4);
        Check.due("29 no conflict", free.soonest(0), 0);
        free.conflict(0, 0, 1, 20, 20);
        Check.due("29 no greens", free.soonest(0), 0);
        free.cycle(30);
        free.green(0, 0, 0, 0, 25);
        Check.due("29 green in one plan", free.soonest(0), 0);
        free.green(0, 1, 1, 3, 25);
        Check.dueThrow("29 never", Check.NONE, () -> free.soonest(0));
        Check.dueThrow("29 no junction", Check.INDEX, () -> free.soonest(1));
        SignalRoad planned = twoPlans();
        planned.run(1);
        planned.change(0);
        planned.run(3);
        Check.due("29 also while a change is planned", planned.soonest(0), 16);
    }

    private static void change() {
        SignalRoad road = twoPlans();
        road.run(1);
        Check.due("30 in seconds", road.change(0), 19);
        Check.due("30 time", road.told(0, 5), 20);
        Check.due("30 planned", road.account(9), 1);
        Check.dueThrow("30 planned already", Check.STATE, () -> road.change(0));
        Check.dueThrow("30 no junction", Check.INDEX, () -> road.change(1));
        road.run(19);
        Check.due("30 not yet", road.told(0, 4), 0);
        Check.due("30 still planned", road.told(0, 5), 20);
        road.run(1);
        Check.due("30 changed", road.told(0, 4), 1);
        Check.due("30 not planned any more", road.account(9), 0);
        road.run(10);
        Check.due("30 back again", road.change(0), 19);
        road.run(20);
        Check.due("30 plan 0 again", road.told(0, 4), 0);
        Check.due("30 lit seconds of group 0", road.groupTold(0, 0, 4), 40);
        Check.due("30 lit seconds of group 1", road.groupTold(0, 1, 4), 0);
        SignalRoad never = Check.roadWith(4, 4);
        never.cycle(30);
        never.conflict(0, 0, 1, 20, 20);
        never.green(0, 0, 0, 0, 25);
        never.green(0, 1, 1, 3, 25);
        Check.dueThrow("30 never", Check.NONE, () -> never.change(0));
        Check.due("30 nothing is planned", never.told(0, 5), -1);
    }

    private static void mount() {
        SignalRoad road = new SignalRoad();
        road.junction(0);
        for (int kind = 0; kind < 3; kind++) {
            road.group(0, kind, 4, false);
        }
        boolean[][] isTaken = {{true, true, false, false}, {false, false, true, false}, {true, true, true, true}};
        for (int kind = 0; kind < 3; kind++) {
            for (int head = 0; head < 4; head++) {
                int group = kind;
                int which = head;
                if (isTaken[kind][head]) {
                    Check.due("31 kind " + kind + " takes " + head, road.mount(0, kind, 1, head), 1);
                } else {
                    Check.dueThrow("31 kind " + kind + " and " + head, Check.REFUSED,
                            () -> road.mount(0, group, 1, which));
                    Check.due("31 reason", road.refusal(), 8);
                }
            }
        }
        Check.due("31 second head", road.mount(0, 2, 0, 3), 2);
        Check.due("31 third head", road.mount(0, 2, 2, 3), 3);
        Check.due("31 in place of another one", road.mount(0, 2, 2, 0), 3);
        Check.due("31 all heads", road.account(10), 5);
        Check.dueThrow("31 no junction", Check.INDEX, () -> road.mount(1, 0, 0, 4));
        Check.dueThrow("31 no group", Check.INDEX, () -> road.mount(0, 3, 0, 4));
        Check.dueThrow("31 no place", Check.INDEX, () -> road.mount(0, 0, 3, 4));
        Check.dueThrow("31 negative place", Check.INDEX, () -> road.mount(0, 0, -1, 0));
        Check.dueThrow("31 no head", Check.ARGUMENT, () -> road.mount(0, 0, 0, 4));
        Check.dueThrow("31 negative head", Check.ARGUMENT, () -> road.mount(0, 0, 0, -1));
    }
}
