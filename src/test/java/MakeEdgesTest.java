/** The boundary cases of promises 16 and 17: plans that are made, and phases. */
public final class MakeEdgesTest {
    private static final String TWO_GROUPS = """
            junction 0 = 0
            group 0 2 10 false = 0
            group 0 2 10 false = 1
            """;
    /** Three groups with 4 seconds each, all in conflict, in a cycle of 30. */
    private static final String THREE_PHASES = """
            cycle 30 = 60
            junction 0 = 0
            3 x group 0 2 4 false = 2
            conflict 0 0 1 0 0 = 1
            conflict 0 0 2 0 0 = 2
            conflict 0 1 2 0 0 = 3
            """;

    public static void main(String[] args) {
        makeNotThere();
        makeNotNow();
        makeInPlace();
        overTheCycle();
        clash();
        leftSeconds();
        greensAtTheirLongest();
        clearances();
        mostPhases();
        makeTwice();
        phase();
        fewestPhases();
        Check.end();
    }

    private static void makeNotThere() {
        Rows.run("16 no such junction or plan", "make 0 0 ! IndexOutOfBounds", TWO_GROUPS, """
                make -1 0 ! IndexOutOfBounds
                make 1 0 ! IndexOutOfBounds
                make 4 0 ! IndexOutOfBounds
                make 0 -1 ! IndexOutOfBounds
                make 0 2 ! IndexOutOfBounds
                make least 0 ! IndexOutOfBounds
                make most 0 ! IndexOutOfBounds
                make 0 least ! IndexOutOfBounds
                make 0 most ! IndexOutOfBounds
                make 0 0 = 1
                make 0 1 = 1
                """);
    }

    private static void makeNotNow() {
        Rows.run("16 the junction has no groups", """
                junction 0 = 0
                junction 5 = 1
                group 1 2 10 false = 0
                make 0 -1 ! IndexOutOfBounds # looked at first
                make 0 2 ! IndexOutOfBounds
                make 2 0 ! IndexOutOfBounds
                make 0 0 ! IllegalState
                make 0 1 ! IllegalState
                change 0 = 0
                make 0 0 ! IllegalState # planned, too
                run 1 = 0
                make 0 0 ! IllegalState
                group 0 2 10 false = 0
                make 0 0 = 1 # the first group
                """);
        Rows.run("16 a change of plans is planned at it", TWO_GROUPS, """
                junction 5 = 1
                group 1 2 10 false = 0
                change 0 = 0
                make 0 2 ! IndexOutOfBounds # looked at first
                make 2 0 ! IndexOutOfBounds
                make 0 0 ! IllegalState
                make 0 1 ! IllegalState
                make 1 0 = 1 # at another one it is no hindrance
                run 1 = 0
                make 0 0 = 1
                """);
        Rows.run("16 this goes before a refusal", TWO_GROUPS, """
                cycle 30 = 60
                conflict 0 0 1 20 20 = 1
                change 0 = 0
                make 0 0 ! IllegalState
                refusal ! NoSuchElement
                run 1 = 0
                make 0 0 ! UnsupportedOperation
                refusal = 6
                """);
    }

    private static void makeInPlace() {
        Rows.run("16 in place of what it was, in this plan alone", TWO_GROUPS, """
                conflict 0 0 1 2 2 = 1
                green 0 0 0 40 15 = 1
                green 0 0 1 5 20 = 2
                green 0 1 1 7 11 = 1
                offset 0 17 = 0 # no matter: phase 0 begins at the local second 0
                make 0 0 = 2
                greenOf 0 0 0 false = 0
                greenOf 0 0 0 true = 28
                greenOf 0 0 1 false = 30
                greenOf 0 0 1 true = 28
                greenOf 0 1 1 false = 7
                greenOf 0 1 1 true = 11
                greenOf 0 1 0 true ! NoSuchElement
                make 0 0 = 2
                account 13 = 8 # a change, also if nothing changes by it
                make 0 1 = 2
                account 3 = 4
                group 0 2 4 false = 2
                greenOf 0 0 2 true ! NoSuchElement
                make 0 0 = 2 # all groups
                greenOf 0 0 2 false = 0
                greenOf 0 0 2 true = 28
                account 3 = 5
                """);
        Rows.run("16 refused, it leaves the plans", TWO_GROUPS, """
                make 0 0 = 1
                make 0 1 = 1
                dark 0 0 0 = 55
                dark 0 1 1 = 55
                conflict 0 0 1 20 20 = 1
                group 0 2 30 false = 2
                conflict 0 0 2 20 20 = 2
                conflict 0 1 2 20 20 = 3
                make 0 0 ! UnsupportedOperation
                make 0 1 ! UnsupportedOperation
                greenOf 0 0 1 true = 55
                greenOf 0 1 0 true = 55
                """);
    }

    private static void overTheCycle() {
        Rows.run("16 the reason 6: more than the cycle", TWO_GROUPS, """
                cycle 30 = 60
                conflict 0 0 1 4 6 = 1
                make 0 0 = 2 # just the cycle
                greenOf 0 0 0 true = 10
                greenOf 0 0 1 false = 14
                greenOf 0 0 1 true = 10
                dark 0 0 0 = 10
                conflict 0 0 1 5 6 = 1
                refusal ! NoSuchElement
                make 0 0 ! UnsupportedOperation
                refusal = 6
                conflict 0 0 1 4 7 = 1 # the seconds behind the last phase count
                make 0 0 ! UnsupportedOperation
                conflict 0 0 1 0 10 = 1
                make 0 0 = 2
                greenOf 0 0 1 false = 10
                make 0 1 = 2
                """);
        Rows.run("16 the reason 6 by the least greens", """
                junction 0 = 0
                group 0 2 30 false = 0
                group 0 2 30 false = 1
                conflict 0 0 1 0 0 = 1
                make 0 0 = 2
                greenOf 0 0 1 false = 30
                greenOf 0 0 1 true = 30
                2 x undo = 3
                cycle 59 = 60
                conflict 0 0 1 0 0 = 1
                make 0 0 ! UnsupportedOperation
                refusal = 6
                make 0 1 ! UnsupportedOperation
                """);
        Rows.run("16 the reason 6 goes before 7", THREE_PHASES, """
                conflict 0 0 2 20 19 = 3
                make 0 0 ! UnsupportedOperation
                refusal = 6
                conflict 0 0 2 20 18 = 3
                make 0 0 ! UnsupportedOperation
                refusal = 7
                """);
    }

    private static void clash() {
        Rows.run("16 the reason 7: a clearance from phase 0 to 2, from 1 to 0, from 2 to 1", THREE_PHASES, """
                conflict 0 0 2 10 0 = 3
                make 0 0 = 3
                greenOf 0 0 0 true = 10
                greenOf 0 0 1 false = 10
                greenOf 0 0 1 true = 10
                greenOf 0 0 2 false = 20
                greenOf 0 0 2 true = 10
                dark 0 0 0 = 10
                conflict 0 0 2 11 0 = 3
                refusal ! NoSuchElement
                make 0 0 ! UnsupportedOperation
                refusal = 7
                conflict 0 0 2 0 0 = 3
                conflict 0 0 1 0 10 = 3
                make 0 0 = 3
                dark 0 0 0 = 10
                conflict 0 0 1 0 11 = 3
                make 0 0 ! UnsupportedOperation
                conflict 0 0 1 0 0 = 3
                conflict 0 1 2 0 10 = 3
                make 0 0 = 3
                dark 0 0 2 = 10
                conflict 0 1 2 0 11 = 3
                make 0 1 ! UnsupportedOperation
                refusal = 7
                """);
        Rows.run("16 what is between the phases counts for the gaps", THREE_PHASES, """
                conflict 0 0 1 2 0 = 3
                conflict 0 1 2 3 0 = 3
                conflict 0 0 2 13 0 = 3
                make 0 0 = 3 # lengths 9, 8, 8 and 2, 3, 0 seconds between them
                greenOf 0 0 0 true = 9
                greenOf 0 0 1 false = 11
                greenOf 0 0 1 true = 8
                greenOf 0 0 2 false = 22
                greenOf 0 0 2 true = 8
                dark 0 0 2 = 8
                conflict 0 0 2 14 0 = 3
                make 0 0 ! UnsupportedOperation
                refusal = 7
                """);
        Rows.run("16 the reason 7 by a group that has no green yet, or another one", THREE_PHASES, """
                conflict 0 0 2 15 0 = 3
                green 0 0 0 0 4 = 1
                green 0 0 2 20 4 = 2
                make 0 0 ! UnsupportedOperation
                refusal = 7
                make 0 1 ! UnsupportedOperation
                greenOf 0 0 2 false = 20
                """);
    }

    private static void leftSeconds() {
        Rows.run("16 the seconds that are left go to phase 0, 1 and so on, again from 0 on", THREE_PHASES, """
                make 0 0 = 3
                greenOf 0 0 0 true = 10
                greenOf 0 0 1 true = 10
                greenOf 0 0 2 true = 10
                undo = 7
                conflict 0 0 1 1 0 = 3 # 17 are left
                make 0 0 = 3
                greenOf 0 0 0 true = 10
                greenOf 0 0 1 true = 10
                greenOf 0 0 2 true = 9
                greenOf 0 0 1 false = 11
                greenOf 0 0 2 false = 21
                undo = 7
                conflict 0 0 1 2 0 = 3 # 16 are left
                make 0 0 = 3
                greenOf 0 0 0 true = 10
                greenOf 0 0 1 true = 9
                greenOf 0 0 2 true = 9
                greenOf 0 0 2 false = 21
                undo = 7
                conflict 0 0 1 17 0 = 3 # 1 is left
                make 0 0 = 3
                greenOf 0 0 0 true = 5
                greenOf 0 0 1 true = 4
                greenOf 0 0 2 true = 4
                greenOf 0 0 1 false = 22
                greenOf 0 0 2 false = 26
                undo = 7
                conflict 0 0 1 18 0 = 3 # none is left
                make 0 0 = 3
                greenOf 0 0 0 true = 4
                greenOf 0 0 2 false = 26
                """);
        Rows.run("16 they go to long phases, too", """
                cycle 120 = 60
                junction 0 = 0
                group 0 2 30 false = 0
                group 0 2 4 false = 1
                conflict 0 0 1 0 0 = 1
                make 0 0 = 2
                greenOf 0 0 0 true = 73
                greenOf 0 0 1 false = 73
                greenOf 0 0 1 true = 47
                """);
    }

    private static void greensAtTheirLongest() {
        Rows.run("16 no green gets longer than the cycle minus 5", """
                junction 0 = 0
                group 0 2 10 false = 0
                make 0 0 = 1
                greenOf 0 0 0 false = 0
                greenOf 0 0 0 true = 55
                shows 0 0 54 = 1
                shows 0 0 55 = 0
                undo = 2
                cycle 120 = 60
                make 0 0 = 1
                greenOf 0 0 0 true = 115
                """);
        Rows.run("16 then they go to the others alone", """
                cycle 30 = 60
                junction 0 = 0
                group 0 2 24 false = 0
                group 0 2 4 false = 1
                conflict 0 0 1 0 0 = 1
                make 0 0 = 2 # 2 are left
                greenOf 0 0 0 true = 25
                greenOf 0 0 1 true = 5
                2 x undo = 4
                cycle 31 = 30
                conflict 0 0 1 0 0 = 1
                make 0 0 = 2 # 3 are left
                greenOf 0 0 0 true = 26
                greenOf 0 0 1 true = 5
                """);
        Rows.run("16 a least green of the cycle minus 5 and one more", """
                cycle 30 = 60
                junction 0 = 0
                group 0 2 25 false = 0
                make 0 0 = 1
                greenOf 0 0 0 true = 25
                junction 1 = 1
                group 1 2 26 false = 0
                make 1 0 = 1 # no hindrance, but nothing is added
                greenOf 1 0 0 true = 26
                shows 1 0 25 = 1
                shows 1 0 26 = 0
                junction 2 = 2
                group 2 2 30 false = 0
                make 2 1 = 1 # as long as the cycle
                greenOf 2 1 0 true = 30
                picture 2 1 -1 = 1
                junction 3 = 3
                group 3 2 26 false = 0
                group 3 2 4 false = 1
                conflict 3 0 1 0 0 = 1
                make 3 0 = 2
                greenOf 3 0 1 false = 26
                """);
        Rows.run("16 a long least green beside one to which seconds are added", """
                cycle 35 = 60
                junction 0 = 0
                group 0 2 30 false = 0
                group 0 2 4 false = 1
                conflict 0 0 1 0 0 = 1
                make 0 0 = 2
                greenOf 0 0 0 true = 30
                greenOf 0 0 1 true = 5
                2 x undo = 4
                cycle 34 = 35
                conflict 0 0 1 0 0 = 1
                make 0 0 = 2
                greenOf 0 0 0 true = 30
                greenOf 0 0 1 true = 4
                2 x undo = 5
                cycle 33 = 34
                conflict 0 0 1 0 0 = 1
                make 0 0 ! UnsupportedOperation
                refusal = 6
                """);
    }

    private static void clearances() {
        Rows.run("16 the greatest clearance between groups in conflict of phases that follow one another", """
                junction 0 = 0
                group 0 2 10 false = 0
                group 0 2 12 false = 1
                group 0 2 8 false = 2
                group 0 2 9 false = 3
                conflict 0 0 2 3 4 = 1
                conflict 0 1 3 7 2 = 2
                make 0 0 = 2 # 12 and 9, between them 7 and 4, so 28 are left
                greenOf 0 0 0 false = 0
                greenOf 0 0 0 true = 26
                greenOf 0 0 1 true = 26
                greenOf 0 0 2 false = 33
                greenOf 0 0 2 true = 23
                greenOf 0 0 3 false = 33
                shows 0 0 55 = 12
                shows 0 0 56 = 0
                conflict 0 0 3 1 5 ! UnsupportedOperation
                conflict 0 0 3 1 4 = 3
                """);
        Rows.run("16 0 if no groups of them are in conflict", """
                junction 0 = 0
                3 x group 0 2 10 false = 2
                conflict 0 0 1 20 20 = 1
                conflict 0 1 2 20 20 = 2
                conflict 0 0 2 0 0 = 3
                peace 0 0 1 = 2020
                make 0 0 = 2 # 0 and 1 together, 2 behind them
                phase 0 2 = 1
                greenOf 0 0 0 true = 10
                greenOf 0 0 2 false = 30
                """);
    }

    private static void mostPhases() {
        String six = """
                cycle 30 = 60
                junction 0 = 0
                6 x group 0 2 4 false = 5
                conflict 0 0 1 C C = 1
                conflict 0 0 2 0 0 = 2
                conflict 0 0 3 0 0 = 3
                conflict 0 0 4 0 0 = 4
                conflict 0 0 5 C L = 5
                conflict 0 1 2 C C = 6
                conflict 0 1 3 0 0 = 7
                conflict 0 1 4 0 0 = 8
                conflict 0 1 5 0 0 = 9
                conflict 0 2 3 C C = 10
                conflict 0 2 4 0 0 = 11
                conflict 0 2 5 0 0 = 12
                conflict 0 3 4 C C = 13
                conflict 0 3 5 0 0 = 14
                conflict 0 4 5 C C = 15
                """;
        Rows.run("16 six phases", six.replace("C", "0").replace("L", "0"), """
                make 0 0 = 6
                greenOf 0 0 0 false = 0
                greenOf 0 0 1 false = 5
                greenOf 0 0 5 false = 25
                greenOf 0 0 5 true = 5
                phase 0 5 = 5
                picture 0 0 -1 = 6
                """);
        Rows.run("16 six phases with clearances that fill the cycle", six.replace("C", "1").replace("L", "1"), """
                make 0 1 = 6
                greenOf 0 1 4 false = 20
                greenOf 0 1 5 false = 25
                greenOf 0 1 5 true = 4
                shows 0 1 29 = 0
                """);
        Rows.run("16 a clearance from the last phase to phase 0", six.replace("C", "1").replace("L", "2"), """
                make 0 1 ! UnsupportedOperation
                refusal = 6
                conflict 0 4 5 0 1 = 15
                make 0 1 = 6
                greenOf 0 1 5 false = 24
                """);
    }

    private static void makeTwice() {
        Rows.run("16 nothing is left of an earlier one", """
                junction 0 = 0
                junction 5 = 1
                3 x group 0 2 30 false = 2
                group 1 2 4 false = 0
                group 1 2 4 false = 1
                conflict 0 0 1 10 10 = 1
                conflict 1 0 1 0 0 = 1
                make 0 0 ! UnsupportedOperation
                make 1 0 = 2
                greenOf 1 0 0 true = 30
                greenOf 1 0 1 false = 30
                greenOf 1 0 1 true = 30
                peace 0 0 1 = 1010
                make 0 0 = 1
                greenOf 0 0 2 true = 55
                """);
        Rows.run("16 the first one at a junction, the second one with fewer phases", """
                cycle 90 = 60
                junction 0 = 0
                3 x group 0 2 20 false = 2
                conflict 0 0 1 10 10 = 1
                conflict 0 1 2 10 10 = 2
                conflict 0 0 2 10 10 = 3
                make 0 0 = 3
                greenOf 0 0 2 false = 60
                peace 0 1 2 = 1010
                make 0 0 = 2
                greenOf 0 0 1 false = 45
                greenOf 0 0 1 true = 35
                peace 0 0 1 = 1010
                peace 0 0 2 = 1010
                make 0 0 = 1
                greenOf 0 0 1 false = 0
                greenOf 0 0 1 true = 85
                """);
    }

    private static void phase() {
        Rows.run("17 no such junction or group", "phase 0 0 ! IndexOutOfBounds", TWO_GROUPS, """
                junction 5 = 1
                phase -1 0 ! IndexOutOfBounds
                phase 2 0 ! IndexOutOfBounds
                phase 1 0 ! IndexOutOfBounds # without groups
                phase 0 -1 ! IndexOutOfBounds
                phase 0 2 ! IndexOutOfBounds
                phase least 0 ! IndexOutOfBounds
                phase most 0 ! IndexOutOfBounds
                phase 0 least ! IndexOutOfBounds
                phase 0 most ! IndexOutOfBounds
                phase 0 0 = 0
                phase 0 1 = 0
                group 1 2 4 false = 0
                phase 1 0 = 0
                """);
        Rows.run("17 also if make would be refused, and while a change is planned", TWO_GROUPS, """
                cycle 30 = 60
                conflict 0 0 1 20 20 = 1
                make 0 0 ! UnsupportedOperation
                phase 0 0 = 0
                phase 0 1 = 1
                change 0 = 0
                phase 0 1 = 1
                peace 0 0 1 = 2020
                phase 0 1 = 0
                account 13 = 7
                account 3 = 0
                """);
        Rows.run("17 not as a plan that stands", TWO_GROUPS, """
                green 0 0 0 0 10 = 1
                green 0 0 1 20 10 = 2
                phase 0 1 = 0
                greenOf 0 0 1 false = 20
                """);
    }

    private static void fewestPhases() {
        Rows.run("17 as few as possible, though the first phase that is free would take more", """
                junction 0 = 0
                4 x group 0 2 4 false = 3
                conflict 0 0 2 0 0 = 1
                conflict 0 2 3 0 0 = 2
                phase 0 0 = 0
                phase 0 1 = 0
                phase 0 2 = 1
                phase 0 3 = 0
                conflict 0 3 1 0 0 = 3
                phase 0 0 = 0
                phase 0 1 = 1
                phase 0 2 = 1
                phase 0 3 = 0
                make 0 0 = 2
                """);
        Rows.run("17 of several ways the first one in lexicographic order", """
                junction 0 = 0
                6 x group 0 2 4 false = 5
                phase 0 5 = 0
                conflict 0 4 5 0 0 = 1
                phase 0 4 = 0
                phase 0 5 = 1
                conflict 0 3 4 0 0 = 2
                conflict 0 3 5 0 0 = 3
                phase 0 3 = 0
                phase 0 4 = 1
                phase 0 5 = 2
                conflict 0 0 3 0 0 = 4
                phase 0 0 = 0
                phase 0 1 = 0
                phase 0 2 = 0
                phase 0 3 = 1
                phase 0 4 = 0
                phase 0 5 = 2
                make 0 0 = 3
                """);
        Rows.run("17 a cycle of five conflicts", """
                junction 0 = 0
                5 x group 0 2 4 false = 4
                conflict 0 0 1 0 0 = 1
                conflict 0 1 2 0 0 = 2
                conflict 0 2 3 0 0 = 3
                conflict 0 3 4 0 0 = 4
                phase 0 4 = 0
                make 0 1 = 2
                dark 0 1 0 = 30
                conflict 0 4 0 0 0 = 5
                phase 0 0 = 0
                phase 0 1 = 1
                phase 0 2 = 0
                phase 0 3 = 1
                phase 0 4 = 2
                make 0 1 = 3
                """);
    }
}
