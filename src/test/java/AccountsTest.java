/** Promises 32 to 34: accounts. */
public final class AccountsTest {
    public static void main(String[] args) {
        account();
        litShare();
        meanWait();
        Check.end();
    }

    private static void account() {
        SignalRoad road = new SignalRoad();
        road.junction(0);
        road.junction(100);
        road.group(0, 2, 4, true);
        road.group(0, 2, 4, false);
        road.group(1, 2, 4, true);
        road.group(1, 2, 4, true);
        road.group(1, 2, 4, false);
        road.conflict(0, 0, 1, 5, 5);
        road.conflict(1, 0, 1, 5, 5);
        road.conflict(1, 1, 2, 5, 5);
        road.green(0, 0, 0, 5, 10);
        road.green(0, 1, 1, 5, 10);
        road.green(1, 0, 0, 8, 10);
        road.green(1, 0, 2, 8, 10);
        road.press(0, 0);
        road.press(1, 0);
        road.press(1, 1);
        road.run(10);
        road.change(1);
        road.mount(0, 0, 0, 0);
        road.mount(1, 1, 0, 0);
        road.mount(1, 1, 1, 0);
        road.speed(20);
        Check.append(road, "run");
        // Lit: 5 for the first one, 2 for each of two; served at 5 and at 8.
        int[] due = {2, 5, 3, 4, 10, 9, 2, 1, 13, 1, 3, 60, 20, 8, 3};
        for (int what = 0; what < due.length; what++) {
            Check.due("32 account " + what, road.account(what), due[what]);
        }
        Check.dueThrow("32 too great", Check.ARGUMENT, () -> road.account(15));
        Check.dueThrow("32 negative", Check.ARGUMENT, () -> road.account(-1));
    }

    private static void litShare() {
        SignalRoad road = Check.roadWith(4, 4);
        road.green(0, 0, 0, 0, 55);
        Check.dueThrow("33 no junction", Check.INDEX, () -> road.litShare(1, 0));
        Check.dueThrow("33 no group", Check.INDEX, () -> road.litShare(0, 2));
        Check.dueThrow("33 no time", Check.ARITHMETIC, () -> road.litShare(0, 0));
        for (int time = 1; time <= 160; time++) {
            road.run(1);
            int lit = road.groupTold(0, 0, 4);
            int bits = Float.floatToIntBits((float) lit / (float) time);
            Check.due("33 share at " + time, road.litShare(0, 0), bits);
        }
        Check.due("33 never lit", road.litShare(0, 1), 0);
        SignalRoad late = Check.roadWith(4);
        late.cycle(120);
        late.green(0, 0, 0, 119, 4);
        for (int k = 0; k < 120; k++) {
            late.run(k % 2 == 0 ? 300 : 7);
            int lit = late.groupTold(0, 0, 4);
            int bits = Float.floatToIntBits((float) lit / (float) late.account(4));
            Check.due("33 small share " + k, late.litShare(0, 0), bits);
        }
        SignalRoad once = Check.roadWith(4);
        once.green(0, 0, 0, 0, 4);
        once.run(1);
        Check.due("33 always lit", once.litShare(0, 0), 0x3f800000);
        once.dark(0, 0, 0);
        for (int k = 0; k < 160; k++) {
            once.run(300);
            int bits = Float.floatToIntBits(1f / (float) once.account(4));
            Check.due("33 lit for a single second", once.litShare(0, 0), bits);
        }
    }

    private static void meanWait() {
        SignalRoad road = new SignalRoad();
        road.junction(0);
        road.group(0, 0, 4, true);
        road.group(0, 0, 4, true);
        road.group(0, 0, 4, true);
        Check.dueThrow("34 none was served", Check.ARITHMETIC, () -> (long) road.meanWait());
        road.green(0, 0, 0, 1, 10);
        road.green(0, 0, 1, 3, 10);
        road.green(0, 0, 2, 3, 10);
        road.press(0, 0);
        road.press(0, 1);
        road.press(0, 2);
        road.run(2);
        Check.due("34 one", Double.doubleToLongBits(road.meanWait()), Double.doubleToLongBits(1.0));
        road.run(2);
        Check.due("34 three", Double.doubleToLongBits(road.meanWait()), Double.doubleToLongBits(7.0 / 3.0));
        road.undo();
        Check.due("34 goes back", Double.doubleToLongBits(road.meanWait()), Double.doubleToLongBits(1.0));
    }
}
