/** Promises 35 to 39: texts. */
public final class TextsTest {
    public static void main(String[] args) {
        append();
        text();
        textWithFault();
        errorPosition();
        report();
        Check.end();
    }

    private static void append() {
        SignalRoad road = new SignalRoad();
        Check.due("35 four", road.append(0x72756e3a), 4);
        Check.due("35 zeroes are skipped", road.append(0x00310032), 6);
        Check.due("35 none", road.append(0), 6);
        Check.due("35 least and greatest character", road.append(0x217e0000), 8);
        Check.dueThrow("35 blank", Check.ARGUMENT, () -> road.append(0x31313120));
        Check.dueThrow("35 delete", Check.ARGUMENT, () -> road.append(0x7f000000));
        Check.dueThrow("35 beyond", Check.ARGUMENT, () -> road.append(0x00ff0000));
        Check.dueThrow("35 negative", Check.ARGUMENT, () -> road.append(0x80000000));
        Check.due("35 nothing was added", road.account(14), 8);
        for (int k = 0; k < 12; k++) {
            road.append(0x31313131);
        }
        Check.due("35 nearly full", road.append(0x31310000), 58);
        Check.dueThrow("35 too many", Check.STATE, () -> road.append(0x31003131));
        Check.dueThrow("35 argument goes first", Check.ARGUMENT, () -> road.append(0x31313101));
        Check.due("35 full", road.append(0x31003100), 60);
        Check.due("35 none more", road.append(0), 60);
        Check.dueThrow("35 one more", Check.STATE, () -> road.append(0x31));
        Check.due("35 no change", road.account(13), 0);
    }

    private static SignalRoad road() {
        SignalRoad road = new SignalRoad();
        road.junction(5);
        road.group(0, 0, 5, true);
        road.group(0, 0, 5, false);
        return road;
    }

    private static void text() {
        SignalRoad road = road();
        Check.due("36 all words", Check.carryOut(road, "green:0,1,1,7,9;offset:0,59;press:0,0;run:3;road:0,1,0;"), 5);
        Check.due("36 no error", road.errorPosition(), -1);
        Check.due("36 empty buffer", road.account(14), 0);
        Check.due("36 green", road.greenOf(0, 1, 1, false), 7);
        Check.due("36 offset", road.told(0, 1), 59);
        Check.due("36 press", road.account(7), 1);
        Check.due("36 run", road.account(4), 3);
        Check.due("36 road", road.road(0, 0, 0), 10);
        Check.due("36 one change", road.account(13), 5);
        Check.due("36 change", Check.carryOut(road, "change:0;"), 1);
        Check.due("36 planned", road.told(0, 5), 3);
        Check.due("36 most commands", Check.carryOut(road, "run:1;run:1;run:1;run:1;run:1;run:1;run:1;run:1;run:1;run:1;"),
                10);
        Check.due("36 each was carried out", road.account(4), 13);
        road.undo();
        Check.due("36 all undone at once", road.account(4), 3);
    }

    private static void textWithFault() {
        SignalRoad road = road();
        Check.dueThrow("36 second command", Check.STATE, () -> Check.carryOut(road, "run:5;offset:0,9;press:0,1;run:1;"));
        Check.due("36 its first letter", road.errorPosition(), 17);
        Check.due("36 empty buffer", road.account(14), 0);
        Check.due("36 time goes back", road.account(4), 0);
        Check.due("36 offset goes back", road.told(0, 1), 0);
        Check.due("36 no change", road.account(13), 3);
        String[] faulty = {"green:1,0,0,0,9;", "green:0,0,0,60,9;", "green:0,0,0,0,4;", "offset:1,0;", "offset:0,60;",
            "press:0,2;", "run:301;", "run:0;", "change:1;", "road:0,0,2;", "change:0;change:0;", "run:5;press:9,9;"};
        int[] due = {0, 0, 0, 0, 0, 0, 0, 0, 0, 0, 9, 6};
        for (int k = 0; k < faulty.length; k++) {
            String text = faulty[k];
            Check.dueThrow("36 " + text, Check.STATE, () -> Check.carryOut(road, text));
            Check.due("37 " + text, road.errorPosition(), due[k]);
        }
        Check.due("36 nothing is left of them", road.account(9) + road.account(4), 0);
        Check.dueThrow("36 the form goes first", Check.ARGUMENT, () -> Check.carryOut(road, "run:301;run;"));
        Check.due("37 of the form", road.errorPosition(), 11);
        for (int k = 0; k < 8; k++) {
            road.speed(5 + k);
        }
        Check.dueThrow("36 with eight changes", Check.STATE, () -> Check.carryOut(road, "run:1;run:999;"));
        for (int k = 7; k >= 0; k--) {
            Check.due("36 all eight are still there", road.undo(), k);
        }
        Check.due("36 the oldest one, too", road.account(12), 14);
    }

    private static void errorPosition() {
        SignalRoad road = road();
        Check.due("37 none yet", road.errorPosition(), -1);
        String[] texts = {"", ":", "g", "gre", "greens:1;", "Run:1;", "run", "runs", "run1:1;", "run:", "run:;",
            "run:1", "run:1,", "run:01;", "run:0", "run:00;", "run:1234", "run:12345;", "run:-1;", "run:1;;", "run:1;r",
            "run:1;run", "run:1;x:1;", "offset:1;", "offset:1,;", "offset:1,2,3;", "road:1,2;", "press:1:2;",
            "green:1,2,3,4;", "green:1,2,3,4,5,6;", "change:a;", "run:1;5", "press:1,x", "run:1a;", "xrun:1;", "run:1;run:2",
            "toad:0,0,0;", "roar:0,0,0;", "rued:0,0,0;"};
        int[] due = {0, 0, 0, 0, 0, 0, 3, 0, 3, 4, 4,
            5, 5, 5, 5, 5, 8, 8, 4, 6, 6,
            9, 6, 8, 9, 10, 8, 7,
            13, 15, 7, 6, 8, 5, 0, 11,
            0, 0, 0};
        for (int k = 0; k < texts.length; k++) {
            String text = texts[k];
            Check.dueThrow("36 " + text, Check.ARGUMENT, () -> Check.carryOut(road, text));
            Check.due("37 " + text, road.errorPosition(), due[k]);
            Check.due("36 the buffer after " + text, road.account(14), 0);
        }
        Check.due("37 a text without an error", Check.carryOut(road, "run:1;"), 1);
        Check.due("37 none again", road.errorPosition(), -1);
        Check.dueThrow("37 another one", Check.ARGUMENT, () -> Check.carryOut(road, "run:1"));
        road.undo();
        Check.due("37 does not go back", road.errorPosition(), 5);
    }

    private static void report() {
        SignalRoad road = new SignalRoad();
        road.junction(0);
        road.junction(400);
        for (int k = 0; k < 4; k++) {
            road.group(1, 0, 4, k == 0);
        }
        road.green(1, 0, 0, 15, 10);
        road.green(1, 0, 2, 0, 20);
        road.run(17);
        Check.due("38 example", Check.report(road, 1), "junction 1 at 400: plan 0, second 17, on 0 2, off 1 3");
        Check.due("38 no groups", Check.report(road, 0), "junction 0 at 0: plan 0, second 17, none on, none off");
        road.offset(1, 18);
        Check.due("38 none on", Check.report(road, 1), "junction 1 at 400: plan 0, second 59, none on, off 0 1 2 3");
        road.change(1);
        road.run(1);
        for (int k = 0; k < 4; k++) {
            road.green(1, 1, k, 0, 10);
        }
        Check.due("38 none off", Check.report(road, 1), "junction 1 at 400: plan 1, second 0, on 0 1 2 3, none off");
        Check.dueThrow("38 no junction", Check.INDEX, () -> road.report(2));
        int length = "junction 1 at 400: plan 1, second 0, on 0 1 2 3, none off".length();
        Check.due("39 last", road.character(length - 1), 'f');
        Check.dueThrow("39 behind the last", Check.INDEX, () -> road.character(length));
        Check.dueThrow("39 negative", Check.INDEX, () -> road.character(-1));
        road.undo();
        Check.due("39 does not go back", road.character(0), 'j');
        SignalRoad far = new SignalRoad();
        far.junction(9999);
        far.cycle(120);
        far.run(119);
        Check.due("38 four digits", Check.report(far, 0), "junction 0 at 9999: plan 0, second 119, none on, none off");
        SignalRoad round = new SignalRoad();
        round.junction(1000);
        round.run(100);
        Check.due("38 noughts", Check.report(round, 0), "junction 0 at 1000: plan 0, second 40, none on, none off");
    }
}
