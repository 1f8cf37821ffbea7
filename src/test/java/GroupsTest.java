/** Promises 8 to 12: groups and conflicts. */
public final class GroupsTest {
    public static void main(String[] args) {
        group();
        groupTold();
        conflict();
        conflictWithPlans();
        conflictWithLongGreen();
        peace();
        clearance();
        Check.end();
    }

    private static void group() {
        SignalRoad road = new SignalRoad();
        road.junction(0);
        Check.due("8 first", road.group(0, 0, 4, false), 0);
        Check.due("8 second", road.group(0, 2, 30, true), 1);
        Check.dueThrow("8 no junction", Check.INDEX, () -> road.group(1, 9, 4, false));
        Check.dueThrow("8 kind too great", Check.ARGUMENT, () -> road.group(0, 3, 4, false));
        Check.dueThrow("8 kind negative", Check.ARGUMENT, () -> road.group(0, -1, 4, false));
        Check.dueThrow("8 least too small", Check.ARGUMENT, () -> road.group(0, 0, 3, false));
        Check.dueThrow("8 least too great", Check.ARGUMENT, () -> road.group(0, 0, 31, false));
        for (int k = 2; k < 6; k++) {
            Check.due("8 further", road.group(0, 1, 10, false), k);
        }
        Check.dueThrow("8 six are there", Check.STATE, () -> road.group(0, 1, 10, false));
        Check.dueThrow("8 argument goes first", Check.ARGUMENT, () -> road.group(0, 1, 31, false));
        Check.due("8 count", road.told(0, 2), 6);
    }

    private static void groupTold() {
        SignalRoad road = new SignalRoad();
        road.junction(0);
        road.group(0, 1, 8, true);
        road.group(0, 0, 9, false);
        road.group(0, 2, 10, false);
        road.conflict(0, 0, 2, 1, 2);
        road.conflict(0, 1, 0, 3, 4);
        road.green(0, 0, 0, 3, 10);
        road.mount(0, 0, 2, 2);
        road.run(2);
        road.press(0, 0);
        int[] before = {1, 8, 1, 6, 0, 2, 0, 1};
        for (int what = 0; what < before.length; what++) {
            Check.due("9 of the first group " + what, road.groupTold(0, 0, what), before[what]);
        }
        road.run(3);
        int[] after = {1, 8, 1, 6, 2, -1, 1, 1};
        for (int what = 0; what < after.length; what++) {
            Check.due("9 after its green began " + what, road.groupTold(0, 0, what), after[what]);
        }
        int[] other = {0, 9, 0, 1, 0, -1, 0, 0};
        for (int what = 0; what < other.length; what++) {
            Check.due("9 of another group " + what, road.groupTold(0, 1, what), other[what]);
        }
        Check.dueThrow("9 no junction", Check.INDEX, () -> road.groupTold(1, 0, 8));
        Check.dueThrow("9 no group", Check.INDEX, () -> road.groupTold(0, 3, 8));
        Check.dueThrow("9 what too great", Check.ARGUMENT, () -> road.groupTold(0, 2, 8));
        Check.dueThrow("9 what negative", Check.ARGUMENT, () -> road.groupTold(0, 2, -1));
    }

    private static void conflict() {
        SignalRoad road = Check.roadWith(4, 4, 4);
        Check.due("10 first", road.conflict(0, 0, 1, 0, 20), 1);
        Check.due("10 second", road.conflict(0, 1, 2, 3, 4), 2);
        Check.due("10 new clearances", road.conflict(0, 1, 0, 5, 6), 2);
        Check.due("10 clearance there", road.clearance(0, 0, 1), 6);
        Check.dueThrow("10 no junction", Check.INDEX, () -> road.conflict(1, 0, 0, 1, 1));
        Check.dueThrow("10 no first group", Check.INDEX, () -> road.conflict(0, 3, 3, 1, 1));
        Check.dueThrow("10 no other group", Check.INDEX, () -> road.conflict(0, 0, -1, 21, 1));
        Check.dueThrow("10 both the same", Check.ARGUMENT, () -> road.conflict(0, 2, 2, 1, 1));
        Check.dueThrow("10 there too great", Check.ARGUMENT, () -> road.conflict(0, 0, 1, 21, 0));
        Check.dueThrow("10 back negative", Check.ARGUMENT, () -> road.conflict(0, 0, 1, 0, -1));
        road.change(0);
        Check.dueThrow("10 change is planned", Check.STATE, () -> road.conflict(0, 0, 2, 0, 0));
        Check.dueThrow("10 argument goes first", Check.ARGUMENT, () -> road.conflict(0, 0, 0, 0, 0));
        Check.due("10 nothing changed", road.told(0, 6), 2);
    }

    private static void conflictWithPlans() {
        SignalRoad road = Check.roadWith(4, 4);
        road.green(0, 0, 0, 0, 10);
        road.green(0, 0, 1, 15, 35);
        Check.due("10 gaps are just enough", road.conflict(0, 0, 1, 5, 10), 1);
        Check.dueThrow("10 gap before is too small", Check.REFUSED, () -> road.conflict(0, 0, 1, 6, 11));
        Check.due("10 reason 4 goes first", road.refusal(), 4);
        Check.dueThrow("10 gap behind is too small", Check.REFUSED, () -> road.conflict(0, 0, 1, 6, 10));
        Check.due("10 reason 5", road.refusal(), 5);
        Check.dueThrow("10 told the other way round", Check.REFUSED, () -> road.conflict(0, 1, 0, 10, 6));
        Check.due("10 reason of the first group", road.refusal(), 4);
        Check.due("10 clearances stay", road.clearance(0, 0, 1), 5);
        road.peace(0, 0, 1);
        road.green(0, 1, 0, 50, 20);
        road.green(0, 1, 1, 9, 10);
        Check.dueThrow("10 on together by plan 1", Check.REFUSED, () -> road.conflict(0, 0, 1, 5, 10));
        Check.due("10 reason 3", road.refusal(), 3);
        Check.dueThrow("10 plan 0 goes first", Check.REFUSED, () -> road.conflict(0, 0, 1, 5, 11));
        Check.due("10 reason of plan 0", road.refusal(), 4);
        Check.due("10 none was made", road.told(0, 6), 0);
    }

    /** A green that make has given may be longer than the cycle minus 5; it can clash all the same. */
    private static void conflictWithLongGreen() {
        SignalRoad road = Check.roadWith(30, 4);
        road.cycle(30);
        road.make(0, 0);
        Check.due("10 all the cycle", road.greenOf(0, 0, 0, true), 30);
        Check.dueThrow("10 on together", Check.REFUSED, () -> road.conflict(0, 0, 1, 0, 0));
        Check.due("10 reason 3 of a long green", road.refusal(), 3);
    }

    private static void peace() {
        SignalRoad road = Check.roadWith(4, 4, 4);
        road.conflict(0, 0, 1, 5, 7);
        road.conflict(0, 1, 2, 20, 0);
        Check.dueThrow("11 no junction", Check.INDEX, () -> road.peace(1, 0, 1));
        Check.dueThrow("11 no group", Check.INDEX, () -> road.peace(0, 0, 3));
        Check.dueThrow("11 no first group", Check.INDEX, () -> road.peace(0, -1, 0));
        Check.dueThrow("11 not in conflict", Check.NONE, () -> road.peace(0, 0, 2));
        Check.dueThrow("11 both the same", Check.NONE, () -> road.peace(0, 1, 1));
        road.change(0);
        Check.due("11 also while a change is planned", road.peace(0, 0, 1), 507);
        Check.due("11 told the other way round", road.peace(0, 2, 1), 20);
        Check.due("11 none is left", road.told(0, 6), 0);
        Check.dueThrow("11 over already", Check.NONE, () -> road.peace(0, 0, 1));
    }

    private static void clearance() {
        SignalRoad road = Check.roadWith(4, 4, 4);
        road.conflict(0, 0, 1, 5, 0);
        Check.due("12 there", road.clearance(0, 0, 1), 5);
        Check.due("12 back", road.clearance(0, 1, 0), 0);
        Check.due("12 not in conflict", road.clearance(0, 0, 2), -1);
        Check.due("12 the same", road.clearance(0, 1, 1), -1);
        Check.dueThrow("12 no junction", Check.INDEX, () -> road.clearance(1, 0, 1));
        Check.dueThrow("12 no first group", Check.INDEX, () -> road.clearance(0, 3, 1));
        Check.dueThrow("12 no other group", Check.INDEX, () -> road.clearance(0, 0, 3));
    }
}
