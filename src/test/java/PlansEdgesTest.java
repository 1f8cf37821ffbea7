/** The boundary cases of promises 13 to 15 and 18 to 21: greens, what plans show, and reasons. */
public final class PlansEdgesTest {
    private static final String THREE_GROUPS = """
            junction 0 = 0
            group 0 2 10 false = 0
            group 0 2 4 false = 1
            group 0 2 4 true = 2
            """;

    public static void main(String[] args) {
        green();
        greenNotNow();
        greenRefused();
        hinders();
        reasons();
        gaps();
        dark();
        greenOf();
        shows();
        picture();
        refusal();
        Check.end();
    }

    private static void green() {
        Rows.run("13 no such junction, plan or group", "green 0 0 0 0 10 ! IndexOutOfBounds", THREE_GROUPS, """
                junction 5 = 1
                green -1 0 0 0 10 ! IndexOutOfBounds
                green 2 0 0 0 10 ! IndexOutOfBounds
                green 1 0 0 0 10 ! IndexOutOfBounds
                green least 0 0 0 10 ! IndexOutOfBounds
                green 0 -1 0 0 10 ! IndexOutOfBounds
                green 0 2 0 0 10 ! IndexOutOfBounds
                green 0 most 0 0 10 ! IndexOutOfBounds
                green 0 0 -1 0 10 ! IndexOutOfBounds
                green 0 1 3 0 10 ! IndexOutOfBounds
                green 0 1 least 0 10 ! IndexOutOfBounds
                green 2 0 0 60 0 ! IndexOutOfBounds # looked at first
                green 0 2 0 -1 10 ! IndexOutOfBounds
                green 0 0 3 0 61 ! IndexOutOfBounds
                green 0 1 2 0 4 = 1
                """);
        Rows.run("13 the first second is 0 to the cycle minus 1", THREE_GROUPS, """
                green 0 0 1 -1 10 ! IllegalArgument
                green 0 0 1 60 10 ! IllegalArgument
                green 0 0 1 least 10 ! IllegalArgument
                green 0 0 1 most 10 ! IllegalArgument
                green 0 0 1 59 10 = 1
                greenOf 0 0 1 false = 59
                green 0 0 1 0 10 = 1
                greenOf 0 0 1 false = 0
                """);
        Rows.run("13 the length is 1 to the cycle", THREE_GROUPS, """
                green 0 0 1 0 0 ! IllegalArgument
                green 0 0 1 0 -1 ! IllegalArgument
                green 0 0 1 0 61 ! IllegalArgument
                green 0 0 1 0 least ! IllegalArgument
                green 0 0 1 0 most ! IllegalArgument
                refusal ! NoSuchElement
                green 0 0 1 0 1 ! UnsupportedOperation
                refusal = 1
                green 0 0 1 0 60 ! UnsupportedOperation
                refusal = 2
                green 0 0 1 60 60 ! IllegalArgument # looked at first
                green 0 0 1 -1 1 ! IllegalArgument
                account 3 = 0
                """);
        Rows.run("13 the number of groups with a green in the plan then", THREE_GROUPS, """
                green 0 0 0 0 10 = 1
                green 0 1 1 0 10 = 1
                green 0 0 2 0 10 = 2
                green 0 0 2 5 20 = 2 # in place of an earlier one
                green 0 0 2 5 20 = 2 # the same once more is a change
                green 0 1 0 0 10 = 2
                green 0 0 1 0 10 = 3
                account 3 = 5
                account 13 = 8
                """);
    }

    private static void greenNotNow() {
        Rows.run("13 a change of plans is planned at this junction", THREE_GROUPS, """
                junction 5 = 1
                group 1 2 4 false = 0
                change 0 = 0
                green 0 0 0 0 10 ! IllegalState
                green 0 1 0 0 10 ! IllegalState
                green 0 0 0 0 9 ! IllegalState # would be refused, too
                green 0 0 0 0 60 ! IllegalState
                green 0 0 0 60 10 ! IllegalArgument
                green 0 0 0 0 0 ! IllegalArgument
                green 0 0 3 0 10 ! IndexOutOfBounds
                refusal ! NoSuchElement
                green 1 0 0 0 10 = 1 # at another one it is no hindrance
                run 1 = 0
                green 0 0 0 0 9 ! UnsupportedOperation
                green 0 0 0 0 10 = 1
                """);
    }

    private static void greenRefused() {
        Rows.run("13 a green that is refused leaves the earlier one", THREE_GROUPS, """
                conflict 0 0 1 3 5 = 1
                green 0 0 0 20 10 = 1
                green 0 0 1 40 10 = 2
                green 0 0 0 20 9 ! UnsupportedOperation
                refusal = 1
                green 0 0 0 20 56 ! UnsupportedOperation
                refusal = 2
                green 0 0 0 20 21 ! UnsupportedOperation
                refusal = 3
                green 0 0 0 54 10 ! UnsupportedOperation
                refusal = 4
                green 0 0 0 20 18 ! UnsupportedOperation
                refusal = 5
                greenOf 0 0 0 false = 20
                greenOf 0 0 0 true = 10
                green 0 0 0 20 17 = 2 # a gap of 3 is enough
                green 0 0 0 55 42 = 2 # gaps of 5 and 3 around the end of the cycle
                green 0 0 0 55 43 ! UnsupportedOperation
                refusal = 5
                green 0 0 0 54 42 ! UnsupportedOperation
                refusal = 4
                """);
    }

    private static void hinders() {
        Rows.run("14 no such junction, plan or group", "hinders 0 0 0 0 10 ! IndexOutOfBounds", THREE_GROUPS, """
                hinders -1 0 0 0 10 ! IndexOutOfBounds
                hinders 1 0 0 0 10 ! IndexOutOfBounds
                hinders 0 -1 0 0 10 ! IndexOutOfBounds
                hinders 0 2 0 0 10 ! IndexOutOfBounds
                hinders 0 0 -1 0 10 ! IndexOutOfBounds
                hinders 0 0 3 0 10 ! IndexOutOfBounds
                hinders most 0 0 0 10 ! IndexOutOfBounds
                hinders 0 least 0 0 10 ! IndexOutOfBounds
                hinders 0 0 most 0 10 ! IndexOutOfBounds
                hinders 1 0 0 60 0 ! IndexOutOfBounds # looked at first
                hinders 0 2 0 0 0 ! IndexOutOfBounds
                hinders 0 0 3 -1 10 ! IndexOutOfBounds
                """);
        Rows.run("14 a number is out of range", THREE_GROUPS, """
                hinders 0 0 0 -1 10 ! IllegalArgument
                hinders 0 0 0 60 10 ! IllegalArgument
                hinders 0 0 0 0 0 ! IllegalArgument
                hinders 0 0 0 0 61 ! IllegalArgument
                hinders 0 0 0 least 10 ! IllegalArgument
                hinders 0 0 0 0 least ! IllegalArgument
                hinders 0 0 0 0 most ! IllegalArgument
                hinders 0 0 0 59 60 = 2
                hinders 0 0 0 0 1 = 1
                """);
        Rows.run("14 nothing is given or kept, also while a change is planned", THREE_GROUPS, """
                hinders 0 0 0 0 10 = 0
                account 3 = 0
                hinders 0 1 0 0 9 = 1
                refusal ! NoSuchElement
                change 0 = 0
                hinders 0 0 0 0 10 = 0
                hinders 0 0 0 0 9 = 1
                account 13 = 5
                """);
    }

    private static void reasons() {
        Rows.run("14 reasons 1 and 2: the least green and the cycle minus 5", THREE_GROUPS, """
                hinders 0 0 0 7 9 = 1
                hinders 0 0 0 7 10 = 0
                hinders 0 0 1 7 3 = 1
                hinders 0 0 1 7 4 = 0
                hinders 0 0 0 7 55 = 0
                hinders 0 0 0 7 56 = 2
                """);
        Rows.run("14 reasons 1 and 2 at once", """
                junction 0 = 0
                group 0 2 30 false = 0
                cycle 30 = 60
                hinders 0 0 0 0 25 = 1
                hinders 0 0 0 0 26 = 1
                hinders 0 0 0 0 29 = 1
                hinders 0 0 0 0 30 = 2
                cycle 34 = 30
                hinders 0 0 0 0 29 = 1
                hinders 0 0 0 0 30 = 2
                cycle 35 = 34
                hinders 0 0 0 0 30 = 0
                hinders 0 0 0 0 31 = 2
                """);
        Rows.run("14 the reasons 1 and 2 go before 3", THREE_GROUPS, """
                conflict 0 0 1 20 20 = 1
                green 0 0 1 0 30 = 1
                hinders 0 0 0 0 9 = 1
                hinders 0 0 0 0 56 = 2
                hinders 0 0 0 0 55 = 3
                hinders 0 0 0 29 10 = 3
                hinders 0 0 0 30 10 = 4
                hinders 0 0 0 49 11 = 4 # too soon before, too
                hinders 0 0 0 50 10 = 5
                hinders 0 0 2 0 30 = 0 # not in conflict
                hinders 0 1 0 0 55 = 0 # no green by the other plan
                """);
        Rows.run("14 the first reason of all groups in conflict", THREE_GROUPS, """
                group 0 2 4 false = 3
                conflict 0 0 3 5 5 = 1
                conflict 0 1 3 5 5 = 2
                conflict 0 2 3 5 5 = 3
                green 0 0 0 50 10 = 1
                green 0 0 1 20 4 = 2
                green 0 0 2 30 4 = 3
                hinders 0 0 3 5 10 = 0
                hinders 0 0 3 5 11 = 5 # before group 1
                hinders 0 0 3 4 12 = 4 # behind group 0
                hinders 0 0 3 4 17 = 3 # with group 1
                hinders 0 0 3 25 4 = 4
                hinders 0 0 3 28 8 = 3 # with group 2, and too soon behind group 1
                hinders 0 0 3 39 6 = 0
                hinders 0 0 3 38 7 = 4
                hinders 0 0 3 39 7 = 5 # before group 0
                hinders 0 0 3 39 12 = 3 # with group 0
                """);
        Rows.run("14 an earlier green of the group does not count", THREE_GROUPS, """
                conflict 0 0 1 5 5 = 1
                green 0 0 0 0 10 = 1
                green 0 0 1 20 10 = 2
                hinders 0 0 1 15 40 = 0
                hinders 0 0 1 15 41 = 5
                hinders 0 0 1 14 41 = 4
                green 0 0 1 15 40 = 2
                """);
    }

    private static void gaps() {
        String around = THREE_GROUPS + """
                conflict 0 0 1 3 5 = 1
                green 0 0 1 50 15 = 1
                """;
        Rows.run("14 a green and its gaps around the end of the cycle", around, """
                hinders 0 0 0 4 20 = 3
                hinders 0 0 0 5 20 = 4
                hinders 0 0 0 9 20 = 4
                hinders 0 0 0 10 20 = 0
                hinders 0 0 0 10 37 = 0
                hinders 0 0 0 10 38 = 5
                hinders 0 0 0 10 40 = 5
                hinders 0 0 0 10 41 = 3
                hinders 0 0 0 40 10 = 5
                hinders 0 0 0 41 10 = 3
                hinders 0 0 0 59 10 = 3
                """);
        Rows.run("14 clearances of 0", THREE_GROUPS, """
                conflict 0 0 1 0 0 = 1
                green 0 0 1 50 15 = 1
                hinders 0 0 0 5 45 = 0
                hinders 0 0 0 5 46 = 3
                hinders 0 0 0 4 46 = 3
                hinders 0 0 0 5 10 = 0
                hinders 0 0 0 40 10 = 0
                """);
        Rows.run("14 a gap as long as the cycle is one of 0", """
                cycle 30 = 60
                junction 0 = 0
                group 0 2 4 false = 0
                group 0 2 26 false = 1
                make 0 0 = 1
                dark 0 0 0 = 26
                conflict 0 0 1 0 0 = 1
                hinders 0 0 0 26 4 = 0
                hinders 0 0 0 26 5 = 3
                hinders 0 0 0 25 4 = 3
                hinders 0 0 1 0 26 = 2
                """);
    }

    private static void dark() {
        Rows.run("15 no such junction, plan or group", "dark 0 0 0 ! IndexOutOfBounds", THREE_GROUPS, """
                junction 5 = 1
                dark -1 0 0 ! IndexOutOfBounds
                dark 2 0 0 ! IndexOutOfBounds
                dark 1 0 0 ! IndexOutOfBounds
                dark 0 -1 0 ! IndexOutOfBounds
                dark 0 2 0 ! IndexOutOfBounds
                dark 0 0 -1 ! IndexOutOfBounds
                dark 0 0 3 ! IndexOutOfBounds
                dark most 0 0 ! IndexOutOfBounds
                dark 0 least 0 ! IndexOutOfBounds
                dark 0 0 most ! IndexOutOfBounds
                change 0 = 0
                dark 0 0 3 ! IndexOutOfBounds # looked at first
                dark 0 2 0 ! IndexOutOfBounds
                dark 0 0 0 ! IllegalState
                dark 0 1 2 ! IllegalState
                """);
        Rows.run("15 a change of plans is planned at this junction", THREE_GROUPS, """
                junction 5 = 1
                group 1 2 4 false = 0
                make 1 0 = 1
                make 0 1 = 1
                change 0 = 0
                dark 0 1 0 ! IllegalState
                dark 1 0 0 = 55 # at another one it is no hindrance
                run 1 = 0
                dark 0 1 0 = 55
                """);
        Rows.run("15 the length of the green that it had, 0 without one", THREE_GROUPS, """
                dark 0 0 0 = 0
                account 13 = 5 # a change all the same
                green 0 0 0 59 55 = 1
                green 0 1 0 59 10 = 1
                dark 0 0 1 = 0
                dark 0 0 0 = 55
                dark 0 0 0 = 0
                greenOf 0 0 0 true ! NoSuchElement
                shows 0 0 59 = 0
                shows 0 1 59 = 1 # the other plan stays
                dark 0 1 0 = 10
                account 3 = 0
                """);
    }

    private static void greenOf() {
        Rows.run("18 no such junction, plan or group", "greenOf 0 0 0 true ! IndexOutOfBounds", THREE_GROUPS, """
                greenOf -1 0 0 true ! IndexOutOfBounds
                greenOf 1 0 0 true ! IndexOutOfBounds
                greenOf 0 -1 0 false ! IndexOutOfBounds
                greenOf 0 2 0 false ! IndexOutOfBounds
                greenOf 0 0 -1 true ! IndexOutOfBounds
                greenOf 0 0 3 true ! IndexOutOfBounds
                greenOf least 0 0 true ! IndexOutOfBounds
                greenOf 0 most 0 true ! IndexOutOfBounds
                greenOf 0 0 least false ! IndexOutOfBounds
                greenOf 0 0 2 true ! NoSuchElement
                greenOf 0 1 2 false ! NoSuchElement
                green 0 0 2 0 4 = 1
                greenOf 0 0 2 false = 0
                greenOf 0 0 2 true = 4
                greenOf 0 1 2 true ! NoSuchElement
                greenOf 0 0 1 true ! NoSuchElement
                dark 0 0 2 = 4
                greenOf 0 0 2 false ! NoSuchElement
                """);
    }

    private static void shows() {
        Rows.run("19 no such junction or plan, and seconds of the cycle", "shows 0 0 0 ! IndexOutOfBounds", THREE_GROUPS, """
                shows -1 0 0 ! IndexOutOfBounds
                shows 1 0 0 ! IndexOutOfBounds
                shows 0 -1 0 ! IndexOutOfBounds
                shows 0 2 0 ! IndexOutOfBounds
                shows most 0 0 ! IndexOutOfBounds
                shows 0 least 0 ! IndexOutOfBounds
                shows 1 0 60 ! IndexOutOfBounds # looked at first
                shows 0 2 -1 ! IndexOutOfBounds
                shows 0 0 -1 ! IllegalArgument
                shows 0 0 60 ! IllegalArgument
                shows 0 1 least ! IllegalArgument
                shows 0 1 most ! IllegalArgument
                shows 0 0 0 = 0
                shows 0 1 59 = 0
                """);
        Rows.run("19 the first and the last second of a green", THREE_GROUPS, """
                green 0 1 0 10 10 = 1
                green 0 1 1 56 4 = 2
                green 0 1 2 58 6 = 3
                shows 0 1 9 = 0
                shows 0 1 10 = 1
                shows 0 1 19 = 1
                shows 0 1 20 = 0
                shows 0 1 55 = 0
                shows 0 1 56 = 2
                shows 0 1 57 = 2
                shows 0 1 58 = 6
                shows 0 1 59 = 6
                shows 0 1 0 = 4
                shows 0 1 3 = 4
                shows 0 1 4 = 0
                shows 0 0 10 = 0
                """);
        Rows.run("19 no groups, and six that are on all the time", """
                cycle 30 = 60
                junction 3 = 0
                shows 0 0 7 = 0
                6 x group 0 0 30 true = 5
                make 0 1 = 1
                shows 0 1 0 = 63
                shows 0 1 29 = 63
                shows 0 0 0 = 0
                """);
    }

    private static void picture() {
        Rows.run("20 no such junction, plan or index", "picture 0 0 -1 ! IndexOutOfBounds", THREE_GROUPS, """
                picture -1 0 0 ! IndexOutOfBounds
                picture 1 0 0 ! IndexOutOfBounds
                picture 0 -1 0 ! IndexOutOfBounds
                picture 0 2 0 ! IndexOutOfBounds
                picture most 0 0 ! IndexOutOfBounds
                picture 0 least 0 ! IndexOutOfBounds
                picture 1 0 -2 ! IndexOutOfBounds # looked at first
                picture 0 2 9 ! IndexOutOfBounds
                picture 0 0 -2 ! NoSuchElement
                picture 0 0 1 ! NoSuchElement
                picture 0 0 least ! NoSuchElement
                picture 0 0 most ! NoSuchElement
                picture 0 0 60 ! NoSuchElement
                picture 0 0 -1 = 1 # the empty set
                picture 0 0 0 = 0
                """);
        Rows.run("20 each different set once, by the first seconds at which they are on", THREE_GROUPS, """
                green 0 0 0 50 15 = 1
                green 0 0 1 0 4 = 2
                green 0 0 2 20 4 = 3
                picture 0 0 -1 = 4
                picture 0 0 0 = 3
                picture 0 0 1 = 1 # again at 50
                picture 0 0 2 = 0 # again at 24
                picture 0 0 3 = 4
                picture 0 0 4 ! NoSuchElement
                picture 0 1 -1 = 1
                picture 0 1 1 ! NoSuchElement
                """);
        Rows.run("20 a set of the last second alone", THREE_GROUPS, """
                green 0 0 0 0 55 = 1
                green 0 0 1 59 4 = 2
                picture 0 0 -1 = 4
                picture 0 0 0 = 3
                picture 0 0 1 = 1
                picture 0 0 2 = 0
                picture 0 0 3 = 2
                picture 0 0 4 ! NoSuchElement
                """);
        Rows.run("20 a set of the first second", THREE_GROUPS, """
                green 0 0 0 51 10 = 1
                green 0 0 1 1 4 = 2
                picture 0 0 -1 = 3
                picture 0 0 0 = 1 # at 0 alone, and again from 51 on
                picture 0 0 1 = 2
                picture 0 0 2 = 0
                picture 0 0 3 ! NoSuchElement
                """);
        Rows.run("20 no empty set", """
                cycle 30 = 60
                junction 3 = 0
                picture 0 0 -1 = 1 # without groups
                picture 0 0 0 = 0
                6 x group 0 0 30 true = 5
                make 0 1 = 1
                picture 0 1 -1 = 1
                picture 0 1 0 = 63
                picture 0 1 1 ! NoSuchElement
                """);
    }

    private static void refusal() {
        Rows.run("21 the reasons 1 to 5 by calls", THREE_GROUPS, """
                conflict 0 0 1 5 5 = 1
                green 0 0 1 30 10 = 1
                refusal ! NoSuchElement
                green 0 0 0 0 9 ! UnsupportedOperation
                refusal = 1
                green 0 0 0 0 56 ! UnsupportedOperation
                refusal = 2
                green 0 0 0 30 10 ! UnsupportedOperation
                refusal = 3
                green 0 0 0 44 10 ! UnsupportedOperation
                refusal = 4
                green 0 0 0 16 10 ! UnsupportedOperation
                refusal = 5
                refusal = 5
                """);
        Rows.run("21 the reasons 1 to 5 by commands", THREE_GROUPS, """
                conflict 0 0 1 5 5 = 1
                write green:0,0,1,30,10;
                text = 1
                refusal ! NoSuchElement
                write green:0,0,0,0,9;
                text ! IllegalState
                refusal = 1
                write green:0,0,0,0,56;
                text ! IllegalState
                refusal = 2
                write run:5;green:0,0,0,30,10;
                text ! IllegalState
                refusal = 3
                account 4 = 0
                write green:0,0,0,44,10;
                text ! IllegalState
                refusal = 4
                write green:0,0,0,16,10;
                text ! IllegalState
                refusal = 5
                """);
        Rows.run("21 the reasons 3, 6, 7 and 8", """
                junction 0 = 0
                cycle 30 = 60
                3 x group 0 0 4 false = 2
                mount 0 0 0 2 ! UnsupportedOperation
                refusal = 8
                conflict 0 0 1 10 0 = 1
                conflict 0 1 2 10 0 = 2
                conflict 0 0 2 0 0 = 3
                make 0 0 ! UnsupportedOperation
                refusal = 6
                conflict 0 0 1 0 0 = 3
                conflict 0 1 2 0 0 = 3
                conflict 0 0 2 20 0 = 3
                make 0 0 ! UnsupportedOperation
                refusal = 7
                peace 0 0 1 = 0
                green 0 0 0 0 4 = 1
                green 0 0 1 0 4 = 2
                conflict 0 0 1 0 0 ! UnsupportedOperation
                refusal = 3
                """);
        Rows.run("21 it stays in spite of other exceptions, changes, undo and restore", THREE_GROUPS, """
                save = 1
                green 0 0 0 0 9 ! UnsupportedOperation
                green 0 0 0 0 0 ! IllegalArgument
                green 0 0 3 0 9 ! IndexOutOfBounds
                refusal = 1
                green 0 0 0 0 10 = 1
                hinders 0 0 0 0 56 = 2
                refusal = 1
                change 0 = 0
                green 0 0 0 0 56 ! IllegalState
                refusal = 1
                undo = 5
                undo = 4
                refusal = 1
                restore = 1
                refusal = 1
                write run:1
                text ! IllegalArgument
                write press:0,0;
                text ! IllegalState
                refusal = 1
                write green:0,0,0,0,56;green:0,0,0,0,9;
                text ! IllegalState
                refusal = 2 # the second command is not looked at
                """);
    }
}
