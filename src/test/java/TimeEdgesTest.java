/** The boundary cases of promises 27 to 31: time, requests, changes of plans, heads. */
public final class TimeEdgesTest {
    /** Group 0 is by request and on from 10 to 19, group 1 is on from 50 around the cycle to 4. */
    private static final String REQUEST = """
            junction 0 = 0
            group 0 2 4 true = 0
            group 0 2 4 false = 1
            green 0 0 0 10 10 = 1
            green 0 0 1 50 15 = 2
            """;
    /** From group 0 to 1 the clearance is 5, and one is on from 0 to 54, then the other one from 5 to 59. */
    private static final String NARROW = """
            junction 0 = 0
            group 0 2 4 false = 0
            group 0 2 4 false = 1
            conflict 0 0 1 5 0 = 1
            green 0 0 0 0 55 = 1
            green 0 1 1 5 55 = 1
            """;

    public static void main(String[] args) {
        press();
        pressAgain();
        runRange();
        endOfTime();
        lit();
        given();
        givenStays();
        planBecomesPresent();
        served();
        soonestNotThere();
        soonest();
        soonestOfPairs();
        clearancesOfChanges();
        change();
        changePlanned();
        mount();
        heads();
        Check.end();
    }

    private static void press() {
        Rows.run("27 no such junction or group", "press 0 0 ! IndexOutOfBounds", REQUEST, """
                junction 5 = 1
                press -1 0 ! IndexOutOfBounds
                press 2 0 ! IndexOutOfBounds
                press 1 0 ! IndexOutOfBounds
                press 0 -1 ! IndexOutOfBounds
                press 0 2 ! IndexOutOfBounds
                press least 0 ! IndexOutOfBounds
                press most 0 ! IndexOutOfBounds
                press 0 least ! IndexOutOfBounds
                press 0 most ! IndexOutOfBounds
                press 0 1 ! IllegalState # not by request
                press 0 0 = 1
                """);
        Rows.run("27 the requests that wait at this junction then", REQUEST, """
                group 0 2 4 true = 2
                junction 5 = 1
                6 x group 1 2 4 true = 5
                press 1 5 = 1
                press 0 0 = 1
                press 1 0 = 2
                press 1 1 = 3
                press 1 2 = 4
                press 1 3 = 5
                press 1 4 = 6
                press 1 4 = 6
                press 0 2 = 2
                account 7 = 8
                """);
        Rows.run("27 also without a green, and while a change is planned", """
                junction 0 = 0
                group 0 2 4 true = 0
                change 0 = 0
                press 0 0 = 1
                groupTold 0 0 5 = 0
                run 300 = 0
                groupTold 0 0 5 = 0
                account 7 = 1
                account 8 = 0
                """);
    }

    private static void pressAgain() {
        Rows.run("27 a group that waits already stays as it is", REQUEST, """
                press 0 0 = 1
                run 7 = 0
                press 0 0 = 1
                groupTold 0 0 5 = 0
                account 13 = 8 # a change all the same
                run 4 = 1
                account 8 = 10
                groupTold 0 0 5 = -1
                press 0 0 = 1 # served, so it waits anew
                groupTold 0 0 5 = 11
                groupTold 0 0 6 = 1
                run 58 = 0
                press 0 0 = 1
                run 1 = 0
                run 1 = 1
                account 8 = 69
                account 6 = 2
                """);
    }

    private static void runRange() {
        Rows.run("28 seconds are 1 to 300", """
                run 0 ! IllegalArgument
                run -1 ! IllegalArgument
                run 301 ! IllegalArgument
                run least ! IllegalArgument
                run most ! IllegalArgument
                run 1 = 0
                account 4 = 1
                run 300 = 0
                account 4 = 301
                """);
    }

    private static void endOfTime() {
        Rows.run("28 the time would be greater than 99999", """
                333 x run 300 = 0
                run 100 ! IllegalState
                run 300 ! IllegalState
                run 301 ! IllegalArgument # looked at first
                run 0 ! IllegalArgument
                run 99 = 0
                account 4 = 99999
                run 1 ! IllegalState
                run 300 ! IllegalState
                run most ! IllegalArgument
                run least ! IllegalArgument
                """);
        Rows.run("28 the last second", """
                333 x run 300 = 0
                run 98 = 0
                run 2 ! IllegalState
                run 1 = 0
                account 4 = 99999
                undo = 7
                account 4 = 99998
                run 1 = 0
                """);
        Rows.run("28 a request and a change at the end", REQUEST, """
                333 x run 300 = 0
                run 10 = 0
                press 0 0 = 1
                run 60 = 1
                run 29 = 0
                account 8 = 0
                told 0 3 = 39
                press 0 0 = 1
                groupTold 0 0 5 = 99999
                change 0 = 0
                told 0 5 = 99999
                """);
    }

    private static void lit() {
        Rows.run("28 the first and the last second of a green", REQUEST, """
                told 0 7 = 2
                run 4 = 0
                groupTold 0 1 4 = 4
                told 0 7 = 2 # the local second 4
                run 1 = 0
                groupTold 0 1 4 = 5
                told 0 7 = 0
                run 45 = 0
                groupTold 0 1 4 = 5
                told 0 7 = 2 # the local second 50
                run 1 = 0
                groupTold 0 1 4 = 6
                run 9 = 0
                groupTold 0 1 4 = 15
                run 300 = 0
                groupTold 0 1 4 = 90
                groupTold 0 0 4 = 0 # never requested
                account 5 = 90
                """);
        Rows.run("28 by local seconds", REQUEST, """
                offset 0 59 = 0
                told 0 3 = 1
                run 3 = 0
                groupTold 0 1 4 = 3
                told 0 7 = 2 # the local second 4
                run 2 = 0
                groupTold 0 1 4 = 4
                offset 0 15 = 59 # back to the local second 50
                told 0 3 = 50
                run 15 = 0
                groupTold 0 1 4 = 19
                run 1 = 0
                groupTold 0 1 4 = 19
                """);
        Rows.run("28 all the time, and never", """
                cycle 30 = 60
                junction 0 = 0
                group 0 2 30 false = 0
                group 0 2 30 true = 1
                make 0 0 = 1
                group 0 2 4 false = 2
                run 300 = 0
                groupTold 0 0 4 = 300
                groupTold 0 1 4 = 0
                groupTold 0 2 4 = 0
                press 0 1 = 1
                run 300 = 1
                groupTold 0 1 4 = 30 # not given from the next first second on
                account 5 = 630
                """);
        Rows.run("28 not by the other plan", REQUEST, """
                green 0 1 1 20 10 = 1
                run 60 = 0
                groupTold 0 1 4 = 15
                """);
    }

    private static void given() {
        Rows.run("28 requested before, at and behind the first local second", REQUEST, """
                run 9 = 0
                press 0 0 = 1
                run 1 = 0
                groupTold 0 0 6 = 0
                told 0 7 = 1 # the local second 10
                run 1 = 1
                groupTold 0 0 6 = 1
                groupTold 0 0 4 = 1
                account 8 = 1
                run 9 = 0
                groupTold 0 0 4 = 10
                told 0 7 = 0
                run 50 = 0
                told 0 3 = 10
                groupTold 0 0 6 = 1 # still
                press 0 0 = 1 # at the first local second
                told 0 7 = 1
                run 1 = 1
                account 8 = 1
                run 59 = 0
                told 0 7 = 0 # not given in the present second
                groupTold 0 0 6 = 1
                run 1 = 0
                groupTold 0 0 6 = 0
                press 0 0 = 1 # too late
                told 0 7 = 0
                run 59 = 0
                groupTold 0 0 4 = 20
                run 1 = 1
                account 8 = 60
                groupTold 0 0 4 = 21
                """);
        Rows.run("28 a first local second that is 0 or the cycle minus 1", """
                junction 0 = 0
                group 0 2 4 true = 0
                group 0 2 4 true = 1
                green 0 0 0 0 4 = 1
                green 0 0 1 59 4 = 2
                press 0 0 = 1
                press 0 1 = 2
                told 0 7 = 1
                run 1 = 1
                run 58 = 0
                groupTold 0 1 5 = 0
                groupTold 0 1 4 = 0 # the seconds 0 to 2 come before its first one
                run 1 = 1
                groupTold 0 1 4 = 1
                told 0 7 = 2
                run 3 = 0
                groupTold 0 1 4 = 4
                groupTold 0 0 4 = 4
                groupTold 0 0 6 = 0
                groupTold 0 1 6 = 1
                account 8 = 59
                """);
        Rows.run("28 a green that begins between its first second and its last one", """
                junction 0 = 0
                group 0 2 4 true = 0
                run 15 = 0
                press 0 0 = 1
                green 0 0 0 10 10 = 1
                told 0 7 = 0
                run 54 = 0
                groupTold 0 0 4 = 0
                groupTold 0 0 5 = 15
                run 1 = 0
                run 1 = 1
                account 8 = 55
                """);
    }

    private static void givenStays() {
        Rows.run("28 given stays so when its green is changed, taken away or made", REQUEST, """
                press 0 0 = 1
                run 11 = 1
                green 0 0 0 30 10 = 2
                groupTold 0 0 6 = 1
                dark 0 0 0 = 10
                groupTold 0 0 6 = 1
                run 100 = 0
                groupTold 0 0 6 = 1
                make 0 0 = 1
                groupTold 0 0 6 = 1
                told 0 3 = 51
                told 0 7 = 3
                run 4 = 0
                groupTold 0 0 4 = 5
                run 5 = 0 # 55 to 59 are off
                groupTold 0 0 4 = 5
                groupTold 0 0 6 = 1
                run 1 = 0
                groupTold 0 0 6 = 0
                """);
        Rows.run("28 not given stays so, too", REQUEST, """
                run 11 = 0
                press 0 0 = 1
                green 0 0 0 9 20 = 2
                told 0 7 = 0
                run 9 = 0
                groupTold 0 0 4 = 0
                offset 0 10 = 0 # back to the local second 10
                run 10 = 0
                groupTold 0 0 4 = 0
                groupTold 0 0 5 = 11
                groupTold 0 0 6 = 0
                """);
        Rows.run("28 until the next first second, wherever it is now", REQUEST, """
                press 0 0 = 1
                run 11 = 1
                green 0 0 0 11 10 = 2
                run 1 = 0
                groupTold 0 0 6 = 0
                groupTold 0 0 4 = 1
                """);
        Rows.run("28 given stays so when offset, road, heads and conflicts are changed", REQUEST, """
                press 0 0 = 1
                run 11 = 1
                offset 0 30 = 0
                road 0 1 1 = -1
                mount 0 0 0 0 = 1
                conflict 0 0 1 0 0 = 1
                groupTold 0 0 6 = 1
                offset 0 0 = 30
                told 0 7 = 1
                run 1 = 0
                groupTold 0 0 4 = 2
                """);
        Rows.run("28 a given one waits, too, when it is requested again", REQUEST, """
                press 0 0 = 1
                run 11 = 1
                press 0 0 = 1
                groupTold 0 0 5 = 11
                groupTold 0 0 6 = 1
                account 7 = 1
                account 6 = 1
                """);
    }

    private static void planBecomesPresent() {
        Rows.run("28 then no group of the junction is given", REQUEST, """
                green 0 1 0 0 55 = 1
                junction 5 = 1
                group 1 2 4 true = 0
                green 1 0 0 10 30 = 1
                press 0 0 = 1
                press 1 0 = 1
                run 11 = 2
                change 0 = 0
                groupTold 0 0 6 = 1
                told 0 7 = 0 # the present second comes behind the change
                told 1 7 = 1
                run 1 = 0
                groupTold 0 0 6 = 0
                groupTold 0 0 4 = 1
                groupTold 1 0 6 = 1 # at another junction it stays
                groupTold 1 0 4 = 2
                change 0 = 0
                run 1 = 0
                told 0 4 = 0
                groupTold 0 0 6 = 0
                run 5 = 0
                groupTold 0 0 4 = 1
                """);
        Rows.run("28 the other plan is the present one in the same second", REQUEST, """
                green 0 1 0 20 4 = 1
                run 20 = 0
                press 0 0 = 1
                change 0 = 0
                told 0 4 = 0
                told 0 7 = 1
                run 1 = 1 # in the first local second by the new plan
                told 0 4 = 1
                told 0 5 = -1
                groupTold 0 0 6 = 1
                groupTold 0 0 4 = 1
                account 8 = 0
                """);
        Rows.run("28 not before the time for which it is planned", NARROW, """
                run 1 = 0
                change 0 = 59
                told 0 5 = 60
                run 59 = 0
                told 0 4 = 0
                told 0 5 = 60
                groupTold 0 0 4 = 55
                told 0 7 = 0
                run 1 = 0
                told 0 4 = 1
                told 0 5 = -1
                run 4 = 0
                groupTold 0 1 4 = 0
                run 1 = 0
                groupTold 0 1 4 = 1
                groupTold 0 0 4 = 55
                """);
        Rows.run("28 changes at several junctions, also in one call", NARROW, """
                junction 5 = 1
                run 1 = 0
                change 0 = 59
                change 1 = 0
                account 9 = 2
                run 1 = 0
                account 9 = 1
                told 1 4 = 1
                told 0 4 = 0
                run 300 = 0
                account 9 = 0
                told 0 4 = 1
                told 1 4 = 1
                """);
    }

    private static void served() {
        Rows.run("28 the requests that are served in the seconds, at all junctions", """
                cycle 30 = 60
                junction 0 = 0
                junction 5 = 1
                group 0 2 4 true = 0
                group 0 2 4 true = 1
                group 1 2 4 true = 0
                green 0 0 0 0 4 = 1
                green 0 0 1 29 4 = 2
                green 1 0 0 29 4 = 1
                press 0 0 = 1
                press 0 1 = 2
                press 1 0 = 1
                run 29 = 1
                press 0 0 = 2
                run 1 = 2
                run 300 = 1
                account 6 = 4
                account 7 = 0
                account 8 = 59
                run 300 = 0
                """);
    }

    private static void soonestNotThere() {
        Rows.run("29 no such junction", """
                soonest 0 ! IndexOutOfBounds
                junction 0 = 0
                soonest -1 ! IndexOutOfBounds
                soonest 1 ! IndexOutOfBounds
                soonest least ! IndexOutOfBounds
                soonest most ! IndexOutOfBounds
                soonest 0 = 0 # without groups
                group 0 2 4 false = 0
                group 0 2 4 false = 1
                soonest 0 = 0
                conflict 0 0 1 20 20 = 1
                soonest 0 = 0 # without greens
                """);
        Rows.run("29 no such time", NARROW, """
                conflict 0 0 1 10 0 = 1
                soonest 0 = 0
                conflict 0 0 1 11 0 = 1
                soonest 0 ! NoSuchElement
                change 0 ! NoSuchElement
                run 7 = 0
                soonest 0 ! NoSuchElement
                change 0 ! NoSuchElement
                conflict 0 0 1 10 20 = 1
                soonest 0 = 53
                change 0 = 53
                soonest 0 = 53
                change 0 ! IllegalState
                """);
    }

    private static void soonest() {
        Rows.run("29 0 to the cycle minus 1", NARROW, """
                soonest 0 = 0
                run 1 = 0
                soonest 0 = 59
                run 1 = 0
                soonest 0 = 58
                run 57 = 0
                soonest 0 = 1
                run 1 = 0
                soonest 0 = 0
                offset 0 1 = 0
                soonest 0 = 1
                offset 0 59 = 1
                soonest 0 = 59
                """);
        Rows.run("29 a clearance that is one second shorter", NARROW, """
                conflict 0 0 1 4 0 = 1
                soonest 0 = 0
                run 1 = 0
                soonest 0 = 0 # 4 seconds until 5
                run 1 = 0
                soonest 0 = 57 # 4 seconds from 55 on
                run 57 = 0
                soonest 0 = 0
                """);
        Rows.run("29 also while a change is planned, and nothing is planned by it", NARROW, """
                run 1 = 0
                soonest 0 = 59
                told 0 5 = -1
                change 0 = 59
                run 9 = 0
                soonest 0 = 50
                run 50 = 0
                soonest 0 = 0
                run 1 = 0
                soonest 0 = 0 # back: group 0 has been off, and 1 is on by this plan alone
                account 9 = 0
                """);
    }

    private static void soonestOfPairs() {
        Rows.run("29 in this order: from the green of the present plan to that of the other one", """
                junction 0 = 0
                group 0 2 4 false = 0
                group 0 2 4 false = 1
                conflict 0 0 1 0 20 = 1
                green 0 0 0 0 20 = 1
                green 0 1 1 20 20 = 1
                run 19 = 0
                soonest 0 = 0
                run 1 = 0
                soonest 0 = 0
                conflict 0 0 1 1 0 = 1
                soonest 0 = 1 # at 21, when the other one would be on at once
                green 0 1 1 20 4 = 1
                conflict 0 0 1 4 0 = 1
                soonest 0 = 4 # at 24, when the other one is on at 80 next
                conflict 0 0 1 0 0 = 1
                run 1 = 0
                soonest 0 = 0
                """);
        Rows.run("29 of which one has no green", """
                junction 0 = 0
                group 0 2 4 false = 0
                group 0 2 4 false = 1
                conflict 0 0 1 20 20 = 1
                green 0 0 0 0 30 = 1
                run 10 = 0
                soonest 0 = 0
                green 0 1 0 0 30 = 1
                soonest 0 = 0 # a group goes on
                dark 0 0 0 = 30
                green 0 1 1 35 4 ! UnsupportedOperation
                dark 0 1 0 = 30
                green 0 1 1 10 30 = 1
                soonest 0 = 0 # nothing has been on
                """);
        Rows.run("29 groups that are not in conflict, and the others", """
                junction 0 = 0
                3 x group 0 2 4 false = 2
                green 0 0 0 0 30 = 1
                green 0 1 1 0 30 = 1
                green 0 1 2 10 30 = 2
                run 15 = 0
                soonest 0 = 0
                conflict 0 0 2 5 0 = 1
                soonest 0 = 20 # at 35, five seconds behind group 0
                conflict 0 0 2 10 0 = 1
                soonest 0 = 25 # at 40, when group 2 is over
                conflict 0 0 2 0 0 = 1
                soonest 0 = 0 # even while both are on
                """);
        Rows.run("29 group 0 is the latter one", """
                junction 0 = 0
                2 x group 0 2 4 false = 1
                conflict 0 0 1 0 3 = 1
                green 0 0 1 0 30 = 1
                green 0 1 0 0 40 = 1
                run 10 = 0
                soonest 0 = 23 # at 33
                conflict 0 0 1 20 2 = 1
                soonest 0 = 22
                """);
        Rows.run("29 the higher group is the former one", """
                junction 0 = 0
                3 x group 0 2 4 false = 2
                conflict 0 1 2 0 3 = 1
                green 0 0 2 0 30 = 1
                green 0 1 1 0 40 = 1
                run 10 = 0
                soonest 0 = 23 # at 33
                conflict 0 1 2 20 2 = 1
                soonest 0 = 22
                conflict 0 1 2 20 0 = 1
                soonest 0 = 0
                """);
    }

    private static void clearancesOfChanges() {
        Rows.run("29 the seconds between the last time before and the first one from then on", """
                junction 0 = 0
                group 0 2 4 false = 0
                group 0 2 4 false = 1
                conflict 0 0 1 6 0 = 1
                green 0 0 0 0 20 = 1
                green 0 1 1 0 40 = 1
                soonest 0 = 0 # off since 20 by the plan that is taken as if it had always been there
                run 1 = 0
                soonest 0 = 25 # at 26: 20 to 25 are 6 seconds
                run 25 = 0
                soonest 0 = 0
                offset 0 1 = 0
                soonest 0 = 1
                offset 0 0 = 1
                conflict 0 0 1 7 0 = 1
                soonest 0 = 1
                green 0 1 1 27 4 = 1
                soonest 0 = 0 # 20 to 26
                green 0 1 1 26 4 = 1
                soonest 0 = 1 # 20 to 26
                """);
        Rows.run("29 greens around the end of the cycle", """
                junction 0 = 0
                group 0 2 4 false = 0
                group 0 2 4 false = 1
                conflict 0 0 1 3 0 = 1
                green 0 0 0 50 15 = 1
                green 0 1 1 57 20 = 1
                soonest 0 = 8 # at 8: 5 to 7
                run 7 = 0
                soonest 0 = 1
                run 1 = 0
                soonest 0 = 0
                run 42 = 0
                told 0 3 = 50
                soonest 0 = 0 # the green before ended at 4, and 57 is far
                run 4 = 0
                soonest 0 = 0 # at 54, three seconds before 57
                run 1 = 0
                soonest 0 = 13 # at 8 again
                """);
        Rows.run("29 a green of a whole cycle in the present plan, or in the other one", """
                cycle 30 = 60
                junction 0 = 0
                group 0 2 30 false = 0
                group 0 2 4 false = 1
                make 0 0 = 1
                dark 0 0 1 = 30
                conflict 0 0 1 1 0 = 1
                green 0 1 1 5 10 = 1
                soonest 0 = 0 # from 29 on, 5 seconds at 0
                run 5 = 0
                soonest 0 = 10 # at 15
                conflict 0 0 1 20 0 = 1
                soonest 0 = 10 # 20 seconds from 15 to 34
                conflict 0 0 1 0 0 = 1
                soonest 0 = 0
                """);
    }

    private static void change() {
        Rows.run("30 no such junction", """
                change 0 ! IndexOutOfBounds
                junction 0 = 0
                change -1 ! IndexOutOfBounds
                change 1 ! IndexOutOfBounds
                change least ! IndexOutOfBounds
                change most ! IndexOutOfBounds
                change 0 = 0
                change 1 ! IndexOutOfBounds # looked at first
                change 0 ! IllegalState
                run 1 = 0
                told 0 4 = 1
                change 0 = 0
                run 1 = 0
                told 0 4 = 0
                """);
        Rows.run("30 a change of plans is planned at this junction", """
                junction 0 = 0
                junction 5 = 1
                change 0 = 0
                change 0 ! IllegalState
                change 1 = 0 # at another one it is no hindrance
                change 1 ! IllegalState
                run 1 = 0
                change 0 = 0
                """);
        Rows.run("30 in how many seconds, from now on", NARROW, """
                change 0 = 0
                told 0 5 = 0
                undo = 6
                run 30 = 0
                change 0 = 30
                told 0 5 = 60
                run 29 = 0
                change 0 ! IllegalState
                told 0 5 = 60
                account 9 = 1
                run 1 = 0
                told 0 4 = 0
                run 1 = 0
                told 0 4 = 1
                account 9 = 0
                change 0 = 0
                told 0 5 = 61
                """);
    }

    private static void changePlanned() {
        Rows.run("30 it is planned for a time, whatever becomes of the reasons", NARROW, """
                run 1 = 0
                change 0 = 59
                peace 0 0 1 = 500
                soonest 0 = 0
                told 0 5 = 60
                change 0 ! IllegalState
                run 59 = 0
                told 0 4 = 0
                run 1 = 0
                told 0 4 = 1
                """);
        Rows.run("30 what is refused while it is planned", NARROW, """
                change 0 = 0
                cycle 61 ! IllegalState
                offset 0 1 ! IllegalState
                conflict 0 0 1 5 0 ! IllegalState
                green 0 0 0 0 55 ! IllegalState
                dark 0 0 0 ! IllegalState
                make 0 0 ! IllegalState
                change 0 ! IllegalState
                speed 5 = 14
                group 0 2 4 true = 2
                road 0 0 1 = -1
                mount 0 0 0 0 = 1
                press 0 2 = 1
                peace 0 0 1 = 500
                junction 7 = 1
                run 1 = 0
                offset 0 1 = 0
                """);
    }

    private static void mount() {
        Rows.run("31 no such junction, group or place", "mount 0 0 0 0 ! IndexOutOfBounds", REQUEST, """
                junction 5 = 1
                mount -1 0 0 0 ! IndexOutOfBounds
                mount 2 0 0 0 ! IndexOutOfBounds
                mount 1 0 0 0 ! IndexOutOfBounds
                mount 0 -1 0 0 ! IndexOutOfBounds
                mount 0 2 0 0 ! IndexOutOfBounds
                mount 0 0 -1 0 ! IndexOutOfBounds
                mount 0 0 3 0 ! IndexOutOfBounds
                mount least 0 0 0 ! IndexOutOfBounds
                mount 0 most 0 0 ! IndexOutOfBounds
                mount 0 0 least 0 ! IndexOutOfBounds
                mount 0 0 most 0 ! IndexOutOfBounds
                mount 0 0 3 4 ! IndexOutOfBounds # looked at first
                mount 0 2 0 -1 ! IndexOutOfBounds
                mount 2 0 0 4 ! IndexOutOfBounds
                mount 0 0 0 -1 ! IllegalArgument
                mount 0 0 0 4 ! IllegalArgument
                mount 0 0 2 least ! IllegalArgument
                mount 0 0 2 most ! IllegalArgument
                refusal ! NoSuchElement
                mount 0 0 0 0 = 1
                mount 0 0 2 3 = 2
                mount 0 0 1 3 = 3
                """);
        Rows.run("31 no such head, or one that is refused", """
                junction 0 = 0
                group 0 0 4 false = 0
                mount 0 0 3 2 ! IndexOutOfBounds
                mount 0 1 0 2 ! IndexOutOfBounds
                mount 0 0 0 4 ! IllegalArgument
                mount 0 0 0 -1 ! IllegalArgument
                refusal ! NoSuchElement
                mount 0 0 0 2 ! UnsupportedOperation
                refusal = 8
                """);
    }

    private static void heads() {
        String kind = """
                junction 0 = 0
                group 0 K 4 false = 0
                """;
        Rows.run("31 a group for cars", kind.replace("K", "0"), """
                mount 0 0 0 0 = 1
                mount 0 0 1 1 = 2
                mount 0 0 2 2 ! UnsupportedOperation
                refusal = 8
                mount 0 0 2 3 ! UnsupportedOperation
                mount 0 0 0 2 ! UnsupportedOperation # the earlier one stays
                groupTold 0 0 7 = 2
                mount 0 0 0 1 = 2
                """);
        Rows.run("31 a group for walkers", kind.replace("K", "1"), """
                mount 0 0 0 0 ! UnsupportedOperation
                refusal = 8
                mount 0 0 0 1 ! UnsupportedOperation
                mount 0 0 0 3 ! UnsupportedOperation
                mount 0 0 0 2 = 1
                mount 0 0 2 2 = 2
                """);
        Rows.run("31 a group for all", kind.replace("K", "2"), """
                mount 0 0 0 0 = 1
                mount 0 0 1 1 = 2
                mount 0 0 2 2 = 3
                mount 0 0 2 3 = 3 # in place of an earlier one
                mount 0 0 2 3 = 3
                account 10 = 3
                account 13 = 7
                undo = 6
                undo = 5
                undo = 4
                account 10 = 2
                """);
        Rows.run("31 the places of each group and junction", """
                junction 0 = 0
                junction 5 = 1
                6 x group 0 2 4 false = 5
                6 x group 1 2 4 false = 5
                mount 0 5 2 3 = 1
                groupTold 0 4 7 = 0
                groupTold 0 5 7 = 1
                groupTold 1 5 7 = 0
                mount 1 0 0 0 = 1
                groupTold 0 0 7 = 0
                mount 0 5 0 0 = 2
                mount 0 5 1 0 = 3
                mount 0 4 2 0 = 1
                groupTold 0 5 7 = 3
                account 10 = 5
                change 0 = 0
                mount 0 0 0 0 = 1 # also while a change is planned
                """);
    }
}
