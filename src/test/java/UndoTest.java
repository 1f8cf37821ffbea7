import java.util.function.LongSupplier;

/** Promises 40 to 42: undo and saving. */
public final class UndoTest {
    public static void main(String[] args) {
        eachChange();
        noChange();
        latestEight();
        allGoesBack();
        saveAndRestore();
        Check.end();
    }

    private static SignalRoad road() {
        SignalRoad road = new SignalRoad();
        road.junction(0);
        road.group(0, 2, 4, true);
        road.group(0, 2, 4, false);
        road.conflict(0, 0, 1, 3, 3);
        road.green(0, 0, 0, 0, 10);
        road.save();
        road.restore();
        return road;
    }

    private static void eachChange() {
        SignalRoad road = road();
        LongSupplier[] calls = {() -> road.speed(14), () -> road.junction(7), () -> road.group(0, 0, 4, false),
            () -> road.conflict(0, 0, 1, 3, 3), () -> road.peace(0, 0, 1), () -> road.green(0, 0, 0, 0, 10),
            () -> road.dark(0, 1, 0), () -> road.make(0, 0), () -> road.offset(0, 0), () -> road.road(0, 0, 0),
            () -> road.press(0, 0), () -> road.run(1), () -> road.change(0), () -> road.mount(0, 0, 0, 0),
            () -> Check.carryOut(road, "offset:0,0;run:1;")};
        for (int k = 0; k < calls.length; k++) {
            calls[k].getAsLong();
            Check.due("40 change " + k, road.account(13), 1);
            Check.due("40 undone " + k, road.undo(), 0);
        }
        SignalRoad empty = new SignalRoad();
        empty.cycle(60);
        Check.due("40 cycle is a change", empty.undo(), 0);
    }

    private static void noChange() {
        SignalRoad road = road();
        Check.dueThrow("40 refused", Check.REFUSED, () -> road.green(0, 0, 0, 0, 3));
        Check.dueThrow("40 out of range", Check.ARGUMENT, () -> road.speed(4));
        Check.dueThrow("40 text", Check.ARGUMENT, road::text);
        road.append(0);
        road.report(0);
        road.soonest(0);
        road.save();
        Check.due("40 none of these is a change", road.account(13), 0);
        Check.dueThrow("40 there is none", Check.STATE, road::undo);
    }

    private static void latestEight() {
        SignalRoad road = new SignalRoad();
        for (int k = 0; k < 11; k++) {
            road.speed(5 + k);
            Check.due("40 at most eight", road.account(13), Math.min(k + 1, 8));
        }
        for (int k = 7; k >= 0; k--) {
            Check.due("40 left", road.undo(), k);
            Check.due("40 the latest first", road.account(12), 7 + k);
        }
        Check.dueThrow("40 none is left", Check.STATE, road::undo);
        road.speed(20);
        Check.due("40 a new one", road.account(13), 1);
        road.undo();
        Check.due("40 goes back, too", road.account(12), 7);
    }

    private static String picture(SignalRoad road) {
        StringBuilder text = new StringBuilder();
        for (int what = 0; what < 13; what++) {
            text.append(road.account(what)).append(' ');
        }
        for (int j = 0; j < road.account(0); j++) {
            for (int what = 0; what < 8; what++) {
                text.append(road.told(j, what)).append(' ');
            }
            for (int g = 0; g < road.told(j, 2); g++) {
                for (int what = 0; what < 8; what++) {
                    text.append(road.groupTold(j, g, what)).append(' ');
                }
                for (int other = 0; other < road.told(j, 2); other++) {
                    text.append(road.clearance(j, g, other)).append(' ');
                }
            }
            for (int second = 0; second < 60; second += 6) {
                text.append(road.shows(j, 0, second)).append(road.shows(j, 1, second)).append(' ');
            }
        }
        return text.toString();
    }

    private static void allGoesBack() {
        SignalRoad road = road();
        road.road(0, 1, 0);
        road.press(0, 0);
        road.run(1);
        road.press(0, 0);
        road.save();
        road.restore();
        String before = picture(road);
        road.run(100);
        road.change(0);
        road.junction(50);
        road.mount(0, 1, 2, 3);
        road.peace(0, 0, 1);
        road.road(0, 0, 1);
        road.group(0, 0, 30, true);
        Check.carryOut(road, "press:0,2;run:60;green:0,0,0,3,20;");
        while (road.account(13) > 0) {
            road.undo();
        }
        Check.due("40 all goes back", picture(road), before);
        Check.due("40 the groups of the road, too", road.road(0, 0, 0), 10);
        road.undo();
        Check.due("40 a junction that is made anew is empty", road.junction(60), 1);
        Check.due("40 no groups", road.told(1, 2), 0);
        Check.append(road, "run:");
        road.undo();
        Check.due("40 the buffer does not go back", road.account(14), 4);
    }

    private static void saveAndRestore() {
        SignalRoad road = new SignalRoad();
        Check.dueThrow("42 nothing saved", Check.STATE, road::restore);
        Check.due("41 empty", road.save(), 0);
        road.junction(5);
        Check.due("42 empty again", road.restore(), 0);
        Check.due("42 it is", road.account(0), 0);
        Check.dueThrow("42 nothing can be undone", Check.STATE, road::undo);
        SignalRoad other = road();
        other.junction(10);
        other.speed(20);
        Check.due("41 junctions", other.save(), 2);
        String saved = picture(other);
        Check.due("41 is no change and takes none away", other.account(13), 2);
        other.undo();
        other.run(50);
        other.junction(20);
        other.junction(30);
        Check.append(other, "run:1;");
        Check.dueThrow("41 a refusal", Check.REFUSED, () -> other.green(0, 0, 0, 0, 3));
        Check.due("42 junctions", other.restore(), 2);
        Check.due("42 all is as saved", picture(other), saved);
        Check.due("42 the buffer stays", other.account(14), 6);
        Check.due("42 the refusal stays", other.refusal(), 1);
        Check.due("42 no changes", other.account(13), 0);
        other.make(0, 1);
        Check.due("42 again", other.restore(), 2);
        Check.due("42 it stays saved", picture(other), saved);
        other.junction(20);
        Check.due("41 in place of what was saved", other.save(), 3);
        other.undo();
        Check.due("42 the new one", other.restore(), 3);
        SignalRoad anew = new SignalRoad();
        anew.cycle(90);
        anew.junction(5);
        anew.group(0, 2, 9, true);
        anew.save();
        String first = picture(anew);
        anew.undo();
        anew.undo();
        anew.undo();
        anew.junction(7);
        anew.group(0, 1, 4, false);
        anew.restore();
        Check.due("42 a junction that was made anew", picture(anew), first);
    }
}
