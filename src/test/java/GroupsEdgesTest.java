/** The boundary cases of promises 8 to 12: groups and conflicts. */
public final class GroupsEdgesTest {
    private static final String THREE_GROUPS = """
            junction 0 = 0
            group 0 2 4 false = 0
            group 0 2 4 false = 1
            group 0 2 4 false = 2
            """;

    public static void main(String[] args) {
        group();
        groupTold();
        conflict();
        conflictWithGreens();
        conflictAroundTheCycle();
        conflictWithLongGreens();
        peace();
        clearance();
        Check.end();
    }

    private static void group() {
        Rows.run("8 no such junction", "group 0 0 4 false ! IndexOutOfBounds", """
                junction 0 = 0
                group -1 0 4 false ! IndexOutOfBounds
                group 1 0 4 false ! IndexOutOfBounds
                group least 0 4 false ! IndexOutOfBounds
                group most 0 4 true ! IndexOutOfBounds
                group 1 3 4 false ! IndexOutOfBounds # looked at first
                group 1 0 31 false ! IndexOutOfBounds
                """);
        Rows.run("8 a kind is 0 to 2, a least green 4 to 30", """
                junction 0 = 0
                group 0 -1 4 false ! IllegalArgument
                group 0 3 4 false ! IllegalArgument
                group 0 least 4 false ! IllegalArgument
                group 0 most 4 false ! IllegalArgument
                group 0 0 3 false ! IllegalArgument
                group 0 0 31 false ! IllegalArgument
                group 0 0 0 false ! IllegalArgument
                group 0 0 least true ! IllegalArgument
                group 0 0 most true ! IllegalArgument
                told 0 2 = 0
                group 0 0 4 false = 0
                group 0 2 30 true = 1
                group 0 1 30 false = 2
                groupTold 0 0 0 = 0
                groupTold 0 0 1 = 4
                groupTold 0 0 2 = 0
                groupTold 0 1 0 = 2
                groupTold 0 1 1 = 30
                groupTold 0 1 2 = 1
                groupTold 0 2 0 = 1
                """);
        Rows.run("8 at most 6 groups of a junction", """
                junction 0 = 0
                junction 1 = 1
                group 0 0 4 false = 0
                group 0 0 4 true = 1
                group 0 0 4 false = 2
                group 0 0 4 true = 3
                group 0 0 4 false = 4
                group 0 0 4 true = 5
                group 0 0 4 false ! IllegalState
                group 0 3 4 false ! IllegalArgument # looked at first
                group 0 0 3 false ! IllegalArgument
                group 2 0 4 false ! IndexOutOfBounds
                told 0 2 = 6
                group 1 0 4 false = 0 # another one is not full
                account 1 = 7
                undo = 7
                undo = 6
                group 0 2 4 false = 5
                groupTold 0 5 0 = 2
                groupTold 0 5 2 = 0
                """);
        Rows.run("8 a new group has no green, no conflict, no request and no head", THREE_GROUPS, """
                conflict 0 0 2 1 1 = 1
                make 0 0 = 2
                make 0 1 = 2
                change 0 = 0
                group 0 0 9 true = 3 # also while a change is planned
                greenOf 0 0 3 true ! NoSuchElement
                greenOf 0 1 3 false ! NoSuchElement
                clearance 0 3 0 = -1
                clearance 0 2 3 = -1
                groupTold 0 3 3 = 0
                groupTold 0 3 4 = 0
                groupTold 0 3 5 = -1
                groupTold 0 3 6 = 0
                groupTold 0 3 7 = 0
                """);
    }

    private static void groupTold() {
        Rows.run("9 no such junction or group, and what is 0 to 7", "groupTold 0 0 0 ! IndexOutOfBounds", """
                junction 0 = 0
                junction 1 = 1
                groupTold 0 0 0 ! IndexOutOfBounds # none yet
                group 0 0 4 true = 0
                group 0 0 4 true = 1
                groupTold -1 0 0 ! IndexOutOfBounds
                groupTold 2 0 0 ! IndexOutOfBounds
                groupTold least 0 0 ! IndexOutOfBounds
                groupTold most 0 0 ! IndexOutOfBounds
                groupTold 1 0 0 ! IndexOutOfBounds # none at the other one
                groupTold 0 -1 0 ! IndexOutOfBounds
                groupTold 0 2 0 ! IndexOutOfBounds
                groupTold 0 least 0 ! IndexOutOfBounds
                groupTold 0 most 7 ! IndexOutOfBounds
                groupTold 0 2 8 ! IndexOutOfBounds # looked at first
                groupTold 2 0 -1 ! IndexOutOfBounds
                groupTold 0 1 -1 ! IllegalArgument
                groupTold 0 1 8 ! IllegalArgument
                groupTold 0 1 least ! IllegalArgument
                groupTold 0 1 most ! IllegalArgument
                groupTold 0 1 0 = 0
                groupTold 0 1 7 = 0
                """);
        Rows.run("9 the greatest sets and numbers", """
                junction 0 = 0
                6 x group 0 2 30 true = 5
                conflict 0 5 0 0 0 = 1
                conflict 0 5 1 0 0 = 2
                conflict 0 2 5 0 0 = 3
                conflict 0 3 5 0 0 = 4
                conflict 0 4 5 0 0 = 5
                groupTold 0 5 3 = 31
                groupTold 0 0 3 = 32
                groupTold 0 4 3 = 32
                conflict 0 0 1 0 0 = 6
                groupTold 0 0 3 = 34
                mount 0 5 0 3 = 1
                mount 0 5 1 3 = 2
                mount 0 5 2 3 = 3
                groupTold 0 5 7 = 3
                groupTold 0 4 7 = 0
                """);
        Rows.run("9 lit, waiting and given", """
                junction 0 = 0
                group 0 0 4 true = 0
                green 0 0 0 1 4 = 1
                press 0 0 = 1
                groupTold 0 0 5 = 0 # the time 0 is a time
                run 1 = 0
                groupTold 0 0 6 = 0
                groupTold 0 0 4 = 0
                run 1 = 1
                groupTold 0 0 4 = 1
                groupTold 0 0 5 = -1
                groupTold 0 0 6 = 1
                press 0 0 = 1
                groupTold 0 0 5 = 2
                run 3 = 0
                groupTold 0 0 4 = 4
                run 1 = 0
                groupTold 0 0 4 = 4
                groupTold 0 0 6 = 1
                """);
    }

    private static void conflict() {
        Rows.run("10 no such junction or group", "conflict 0 0 1 0 0 ! IndexOutOfBounds", THREE_GROUPS, """
                junction 5 = 1
                conflict -1 0 1 0 0 ! IndexOutOfBounds
                conflict 2 0 1 0 0 ! IndexOutOfBounds
                conflict 1 0 1 0 0 ! IndexOutOfBounds
                conflict least 0 1 0 0 ! IndexOutOfBounds
                conflict 0 -1 1 0 0 ! IndexOutOfBounds
                conflict 0 3 1 0 0 ! IndexOutOfBounds
                conflict 0 0 -1 0 0 ! IndexOutOfBounds
                conflict 0 0 3 0 0 ! IndexOutOfBounds
                conflict 0 least 0 0 0 ! IndexOutOfBounds
                conflict 0 0 most 0 0 ! IndexOutOfBounds
                conflict 0 3 3 0 0 ! IndexOutOfBounds # looked at first
                conflict 0 0 3 21 -1 ! IndexOutOfBounds
                conflict 0 1 2 0 0 = 1
                """);
        Rows.run("10 two groups, and clearances from 0 to 20", THREE_GROUPS, """
                conflict 0 0 0 0 0 ! IllegalArgument
                conflict 0 2 2 5 5 ! IllegalArgument
                conflict 0 0 1 -1 0 ! IllegalArgument
                conflict 0 0 1 0 -1 ! IllegalArgument
                conflict 0 0 1 21 0 ! IllegalArgument
                conflict 0 0 1 0 21 ! IllegalArgument
                conflict 0 0 1 least 0 ! IllegalArgument
                conflict 0 0 1 0 most ! IllegalArgument
                told 0 6 = 0
                conflict 0 0 1 0 20 = 1
                clearance 0 0 1 = 0
                clearance 0 1 0 = 20
                conflict 0 0 1 20 0 = 1
                clearance 0 0 1 = 20
                clearance 0 1 0 = 0
                conflict 0 1 2 20 20 = 2
                conflict 0 2 1 0 0 = 2 # new clearances, told the other way round
                conflict 0 2 1 0 0 = 2
                account 13 = 8
                """);
        Rows.run("10 a change of plans is planned at this junction", THREE_GROUPS, """
                junction 5 = 1
                2 x group 1 0 4 false = 1
                green 0 0 0 0 10 = 1
                green 0 0 1 0 10 = 2
                change 0 = 0
                conflict 0 0 2 0 0 ! IllegalState
                conflict 0 0 1 0 0 ! IllegalState # would be refused, too
                conflict 0 0 0 0 0 ! IllegalArgument
                conflict 0 0 2 21 0 ! IllegalArgument
                conflict 0 0 3 0 0 ! IndexOutOfBounds
                conflict 1 0 1 0 0 = 1 # at another one it is no hindrance
                refusal ! NoSuchElement
                run 1 = 0
                conflict 0 0 1 0 0 ! UnsupportedOperation
                refusal = 3
                conflict 0 1 1 0 0 ! IllegalArgument
                conflict 0 0 1 0 21 ! IllegalArgument # looked at first
                conflict 0 0 2 0 0 = 1
                """);
    }

    private static void conflictWithGreens() {
        for (int plan = 0; plan < 2; plan++) {
            String greens = "green 0 " + plan + " 0 10 10\ngreen 0 " + plan + " 1 25 20";
            Rows.run("10 the gaps 5 and 25 in plan " + plan, THREE_GROUPS, greens, """
                    conflict 0 0 1 5 20 = 1
                    conflict 0 0 1 6 20 ! UnsupportedOperation
                    refusal = 5
                    clearance 0 0 1 = 5 # the earlier ones stay
                    clearance 0 1 0 = 20
                    conflict 0 1 0 20 5 = 1
                    conflict 0 1 0 20 6 ! UnsupportedOperation
                    refusal = 4
                    conflict 0 1 2 20 20 = 2 # group 2 has no green
                    conflict 0 2 0 20 20 = 3
                    """);
        }
        Rows.run("10 one green in each plan", THREE_GROUPS, """
                green 0 0 0 0 20 = 1
                green 0 1 1 0 20 = 1
                conflict 0 0 1 20 20 = 1
                """);
        Rows.run("10 plan 0 is looked at first", THREE_GROUPS, """
                green 0 0 0 0 10 = 1
                green 0 0 1 13 10 = 2
                green 0 1 0 0 10 = 1
                green 0 1 1 9 10 = 2
                conflict 0 0 1 4 0 ! UnsupportedOperation
                refusal = 5
                conflict 0 1 0 0 4 ! UnsupportedOperation
                refusal = 4
                conflict 0 0 1 3 0 ! UnsupportedOperation # plan 0 would allow this
                refusal = 3
                told 0 6 = 0
                change 0 = 0
                run 1
                conflict 0 0 1 4 0 ! UnsupportedOperation # plan 1 is the present one now
                refusal = 5
                dark 0 1 1 = 10
                conflict 0 0 1 3 20 = 1
                """);
        Rows.run("10 of the reasons the first one", THREE_GROUPS, """
                green 0 0 0 0 20 = 1
                green 0 0 1 25 30 = 2
                conflict 0 0 1 6 6 ! UnsupportedOperation
                refusal = 4
                conflict 0 0 1 6 5 ! UnsupportedOperation
                refusal = 5
                green 0 0 1 20 40 = 2
                conflict 0 0 1 0 1 ! UnsupportedOperation
                refusal = 4
                conflict 0 0 1 1 0 ! UnsupportedOperation
                refusal = 5
                conflict 0 0 1 0 0 = 1
                """);
    }

    private static void conflictAroundTheCycle() {
        String[] together = {"0 4 59 4", "0 4 3 4", "58 4 1 5", "58 4 54 5", "10 40 20 4", "20 4 10 40", "59 4 59 4"};
        for (String greens : together) {
            String[] numbers = greens.split(" ");
            Rows.run("10 on together: " + greens, THREE_GROUPS, "green 0 1 0 " + numbers[0] + " " + numbers[1],
                    "green 0 1 1 " + numbers[2] + " " + numbers[3], """
                    conflict 0 0 1 0 0 ! UnsupportedOperation
                    refusal = 3
                    conflict 0 1 0 20 20 ! UnsupportedOperation
                    refusal = 3
                    told 0 6 = 0
                    """);
        }
        String[] apart = {"0 4 56 4", "0 4 4 4", "58 4 2 5", "58 4 54 4", "50 40 30 20"};
        for (String greens : apart) {
            String[] numbers = greens.split(" ");
            Rows.run("10 not on together: " + greens, THREE_GROUPS, "green 0 1 0 " + numbers[0] + " " + numbers[1],
                    "green 0 1 1 " + numbers[2] + " " + numbers[3], """
                    conflict 0 0 1 0 0 = 1
                    """);
        }
        Rows.run("10 a gap around the end of the cycle", THREE_GROUPS, """
                green 0 0 0 40 17 = 1
                green 0 0 1 2 10 = 2
                conflict 0 0 1 6 0 ! UnsupportedOperation
                refusal = 5
                conflict 0 1 0 0 6 ! UnsupportedOperation
                refusal = 4
                conflict 0 0 1 5 20 = 1
                """);
    }

    /** A green that make gave may be longer than the cycle minus 5, and can be on together with another one. */
    private static void conflictWithLongGreens() {
        Rows.run("10 greens of all the cycle", """
                cycle 30 = 60
                junction 0 = 0
                group 0 2 30 false = 0
                group 0 2 4 false = 1
                make 0 1 = 1
                conflict 0 0 1 0 0 ! UnsupportedOperation
                refusal = 3
                dark 0 1 1 = 30
                conflict 0 0 1 20 20 = 1
                """);
        Rows.run("10 a green of the cycle minus 4", """
                cycle 30 = 60
                junction 0 = 0
                group 0 2 26 false = 0
                group 0 2 4 false = 1
                conflict 0 0 1 0 0 = 1
                make 0 0 = 2
                conflict 0 0 1 0 1 ! UnsupportedOperation
                refusal = 4
                conflict 0 0 1 1 0 ! UnsupportedOperation
                refusal = 5
                conflict 0 1 0 0 0 = 1
                """);
    }

    private static void peace() {
        Rows.run("11 no such junction or group", "peace 0 0 1 ! IndexOutOfBounds", THREE_GROUPS, """
                conflict 0 0 2 3 4 = 1
                peace -1 0 2 ! IndexOutOfBounds
                peace 1 0 2 ! IndexOutOfBounds
                peace least 0 2 ! IndexOutOfBounds
                peace 0 -1 2 ! IndexOutOfBounds
                peace 0 3 2 ! IndexOutOfBounds
                peace 0 0 -1 ! IndexOutOfBounds
                peace 0 0 3 ! IndexOutOfBounds
                peace 0 3 3 ! IndexOutOfBounds # looked at first
                peace 0 most 0 ! IndexOutOfBounds
                peace 0 0 least ! IndexOutOfBounds
                """);
        Rows.run("11 they are not in conflict", THREE_GROUPS, """
                peace 0 0 1 ! NoSuchElement
                conflict 0 0 2 3 4 = 1
                peace 0 0 1 ! NoSuchElement
                peace 0 1 2 ! NoSuchElement
                peace 0 0 0 ! NoSuchElement
                peace 0 0 2 = 304
                peace 0 0 2 ! NoSuchElement
                peace 0 2 0 ! NoSuchElement
                """);
        Rows.run("11 the least and the greatest clearances", THREE_GROUPS, """
                conflict 0 0 1 0 0 = 1
                conflict 0 0 2 20 20 = 2
                conflict 0 1 2 0 20 = 3
                peace 0 0 1 = 0
                peace 0 0 2 = 2020
                peace 0 2 1 = 2000
                told 0 6 = 0
                undo = 7
                clearance 0 1 2 = 0
                peace 0 1 2 = 20
                """);
        Rows.run("11 greens stay, and can be on together then", THREE_GROUPS, """
                conflict 0 0 1 5 5 = 1
                make 0 0 = 2
                hinders 0 0 1 0 10 = 3
                change 0 = 0
                peace 0 1 0 = 505 # also while a change is planned
                clearance 0 0 1 = -1
                clearance 0 1 0 = -1
                account 3 = 3
                hinders 0 0 1 0 10 = 0
                """);
    }

    private static void clearance() {
        Rows.run("12 no such junction or group", "clearance 0 0 0 ! IndexOutOfBounds", THREE_GROUPS, """
                clearance -1 0 1 ! IndexOutOfBounds
                clearance 1 0 1 ! IndexOutOfBounds
                clearance most 0 1 ! IndexOutOfBounds
                clearance 0 -1 1 ! IndexOutOfBounds
                clearance 0 3 1 ! IndexOutOfBounds
                clearance 0 0 -1 ! IndexOutOfBounds
                clearance 0 0 3 ! IndexOutOfBounds
                clearance 0 least 0 ! IndexOutOfBounds
                clearance 0 0 most ! IndexOutOfBounds
                clearance 0 0 0 = -1
                clearance 0 2 2 = -1
                clearance 0 1 2 = -1
                conflict 0 1 2 20 0 = 1
                clearance 0 1 2 = 20
                clearance 0 2 1 = 0
                clearance 0 1 1 = -1
                """);
    }
}
