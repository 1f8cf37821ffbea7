/** The boundary cases of promises 1 and 40 to 42: a new object, undo, saving. */
public final class UndoEdgesTest {
    /** The highest junction, with six groups, of which the last ones have what can be had. */
    private static final String LAST_JUNCTION = """
            junction 0 = 0
            junction 1 = 1
            junction 2 = 2
            junction 3 = 3
            6 x group 3 2 4 true = 5
            conflict 3 4 5 7 9 = 1
            green 3 0 5 3 20 = 1
            green 3 1 5 11 30 = 1
            mount 3 5 2 3 = 1
            road 3 5 4 = -1
            """;

    public static void main(String[] args) {
        nothingToUndo();
        eightChanges();
        eachIsAChange();
        noChange();
        whatDoesNotGoBack();
        lastJunction();
        madeAnew();
        afterUndo();
        save();
        restore();
        savedStays();
        savedWithAllParts();
        Check.end();
    }

    private static void nothingToUndo() {
        Rows.run("40 there is none", """
                undo ! IllegalState
                speed 5 = 14
                undo = 0
                undo ! IllegalState
                account 12 = 14
                speed 5 = 14
                undo = 0
                undo ! IllegalState
                """);
    }

    private static void eightChanges() {
        Rows.run("40 the latest 8, the latest first", """
                speed 5 = 14
                speed 6 = 5
                speed 7 = 6
                speed 8 = 7
                speed 9 = 8
                speed 10 = 9
                speed 11 = 10
                account 13 = 7
                speed 12 = 11
                account 13 = 8
                undo = 7
                account 12 = 11
                undo = 6
                account 12 = 10
                undo = 5
                undo = 4
                undo = 3
                undo = 2
                undo = 1
                account 12 = 5
                undo = 0
                account 12 = 14
                undo ! IllegalState
                """);
        Rows.run("40 the ninth one takes the first one away", """
                speed 5 = 14
                speed 6 = 5
                speed 7 = 6
                speed 8 = 7
                speed 9 = 8
                speed 10 = 9
                speed 11 = 10
                speed 12 = 11
                speed 13 = 12
                account 13 = 8
                8 x undo = 0
                account 12 = 5
                undo ! IllegalState
                """);
        Rows.run("40 the same after seventeen, and with some undone between", """
                17 x run 1 = 0
                account 13 = 8
                5 x undo = 3
                account 4 = 12
                3 x run 2 = 0
                account 13 = 6
                3 x run 3 = 0
                account 13 = 8
                undo = 7
                account 4 = 24
                2 x undo = 5
                account 4 = 18
                3 x undo = 2
                account 4 = 12
                undo = 1
                account 4 = 11
                undo = 0
                account 4 = 10
                undo ! IllegalState
                """);
    }

    private static void eachIsAChange() {
        Rows.run("40 each call is a change, also if nothing changes by it", """
                cycle 60 = 60
                account 13 = 1
                speed 14 = 14
                account 13 = 2
                junction 0 = 0
                account 13 = 3
                group 0 2 4 true = 0
                account 13 = 4
                group 0 2 4 true = 1
                conflict 0 0 1 5 5 = 1
                account 13 = 6
                conflict 0 0 1 5 5 = 1
                account 13 = 7
                undo = 6
                account 2 = 1
                peace 0 0 1 = 505
                account 13 = 7
                """);
        Rows.run("40 green, dark, make, offset, road", """
                junction 0 = 0
                group 0 2 4 true = 0
                save = 1
                restore = 1
                green 0 0 0 0 4 = 1
                account 13 = 1
                green 0 0 0 0 4 = 1
                account 13 = 2
                dark 0 0 0 = 4
                account 13 = 3
                dark 0 0 0 = 0
                account 13 = 4
                undo = 3
                undo = 2
                greenOf 0 0 0 true = 4
                make 0 0 = 1
                account 13 = 3
                make 0 0 = 1
                account 13 = 4
                offset 0 0 = 0
                account 13 = 5
                road 0 0 0 = -1
                account 13 = 6
                road 0 0 0 = 0
                account 13 = 7
                undo = 6
                undo = 5
                road 0 0 0 = -1
                """);
        Rows.run("40 press, run, change, mount, text", """
                junction 0 = 0
                group 0 2 4 true = 0
                save = 1
                restore = 1
                press 0 0 = 1
                account 13 = 1
                press 0 0 = 1
                account 13 = 2
                run 1 = 0
                account 13 = 3
                change 0 = 0
                account 13 = 4
                mount 0 0 0 0 = 1
                account 13 = 5
                mount 0 0 0 0 = 1
                account 13 = 6
                write offset:0,0; = 11
                text ! IllegalState
                account 13 = 6
                undo = 5
                undo = 4
                undo = 3
                write offset:0,0; = 11
                text = 1
                account 13 = 4
                undo = 3
                undo = 2
                undo = 1
                account 7 = 1
                undo = 0
                account 7 = 0
                """);
    }

    private static void noChange() {
        Rows.run("40 no other call is a change", """
                junction 0 = 0
                group 0 2 4 true = 0
                make 0 0 = 1
                road 0 0 0 = -1
                trip 0 0 0 = 0
                bestOffset 0 0 = 0
                hinders 0 0 0 0 4 = 0
                soonest 0 = 0
                phase 0 0 = 0
                report 0
                append 0x31000000 = 1
                save = 1
                account 13 = 4
                green 0 0 0 0 3 ! UnsupportedOperation
                text ! IllegalArgument
                account 13 = 4
                undo = 3
                undo = 2
                account 3 = 0
                """);
    }

    private static void whatDoesNotGoBack() {
        Rows.run("40 the buffer, the error position, the latest refusal, the report", """
                junction 0 = 0
                group 0 2 4 true = 0
                write run:1; = 6
                speed 5 = 14
                write run = 3
                undo = 2
                account 14 = 9
                text ! IllegalArgument
                speed 5 = 14
                errorPosition = 9
                undo = 2
                errorPosition = 9
                write x = 1
                text ! IllegalArgument
                undo = 1
                errorPosition = 0
                group 0 0 4 true = 0
                mount 0 0 0 2 ! UnsupportedOperation
                undo = 1
                refusal = 8
                report 0 = 52
                undo = 0
                refusal = 8
                character 0 = j
                character 51 = f
                account 0 = 0
                """);
        Rows.run("42 they do not go back by restore either", """
                save = 0
                junction 0 = 0
                group 0 0 4 true = 0
                mount 0 0 0 2 ! UnsupportedOperation
                report 0 = 49
                write run = 3
                text ! IllegalArgument
                write run:1; = 6
                restore = 0
                errorPosition = 3
                refusal = 8
                account 14 = 6
                character 48 = 0
                character 49 ! IndexOutOfBounds
                text = 1
                errorPosition = -1
                """);
    }

    private static void lastJunction() {
        Rows.run("40 greens, conflicts, heads and groups of the last junction", LAST_JUNCTION, """
                dark 3 0 5 = 20
                dark 3 1 5 = 30
                peace 3 4 5 = 709
                mount 3 5 0 3 = 2
                road 3 0 0 = 54
                5 x undo = 3
                greenOf 3 0 5 false = 3
                greenOf 3 0 5 true = 20
                greenOf 3 1 5 false = 11
                greenOf 3 1 5 true = 30
                clearance 3 4 5 = 7
                clearance 3 5 4 = 9
                mount 3 5 2 3 = 1 # its place is taken, the others are free
                mount 3 5 1 3 = 2
                road 3 4 5 = 54
                """);
        Rows.run("40 the time, requests, what is given and lit at the last junction", LAST_JUNCTION, """
                press 3 5 = 1
                run 4 = 1
                press 3 5 = 1
                press 3 4 = 2
                offset 3 59 = 0
                change 3 = 0
                run 300 = 1
                undo = 7
                account 4 = 4
                account 5 = 1
                account 6 = 1
                account 8 = 3
                told 3 5 = 4
                told 3 4 = 0
                groupTold 3 5 4 = 1
                groupTold 3 5 5 = 4
                groupTold 3 5 6 = 1
                undo = 6
                told 3 5 = -1
                undo = 5
                told 3 1 = 0
                undo = 4
                undo = 3
                account 7 = 0
                undo = 2
                account 4 = 0
                groupTold 3 5 4 = 0
                groupTold 3 5 5 = 0
                groupTold 3 5 6 = 0
                account 6 = 0
                """);
        Rows.run("40 a text of several commands at once", LAST_JUNCTION, """
                write press:3,5;run:4;offset:3,9;road:3,1,1;change:3; = 47
                text = 5
                undo = 7
                account 4 = 0
                account 7 = 0
                told 3 1 = 0
                told 3 5 = -1
                road 3 0 0 = 54
                """);
    }

    private static void madeAnew() {
        String anew = """
                told 0 0 = 7
                told 0 1 = 0
                told 0 2 = 0
                told 0 4 = 0
                told 0 5 = -1
                told 0 6 = 0
                2 x group 0 2 4 true = 1
                groupTold 0 0 3 = 0
                groupTold 0 0 4 = 0
                groupTold 0 0 5 = -1
                groupTold 0 0 6 = 0
                groupTold 0 0 7 = 0
                groupTold 0 1 3 = 0
                clearance 0 0 1 = -1
                greenOf 0 0 0 true ! NoSuchElement
                greenOf 0 1 0 true ! NoSuchElement
                shows 0 0 0 = 0
                road 0 0 0 = -1
                account 5 = 0
                account 6 = 0
                account 8 = 0
                """;
        String full = """
                2 x group 0 2 4 true = 1
                conflict 0 0 1 2 2 = 1
                make 0 0 = 2
                make 0 1 = 2
                mount 0 0 0 0 = 1
                road 0 1 1 = -1
                """;
        Rows.run("40 a junction that is made anew has nothing of the one that was undone", """
                junction 5 = 0
                2 x group 0 2 4 true = 1
                make 0 0 = 1
                press 0 0 = 1
                run 1 = 1
                change 0 = 0
                offset 0 1 ! IllegalState
                7 x undo = 0
                junction 7 = 0
                """, anew);
        Rows.run("42 the same with restore", "save = 0\njunction 5 = 0\n", full, """
                press 0 0 = 1
                run 1 = 1
                press 0 1 = 1
                change 0
                restore = 0
                junction 7 = 0
                """, anew);
        Rows.run("42 the position, kind and least green of what was made anew since", """
                junction 5 = 0
                group 0 1 9 true = 0
                save = 1
                2 x undo = 0
                junction 7 = 0
                group 0 2 4 false = 0
                restore = 1
                told 0 0 = 5
                groupTold 0 0 0 = 1
                groupTold 0 0 1 = 9
                groupTold 0 0 2 = 1
                mount 0 0 0 0 ! UnsupportedOperation
                """);
        Rows.run("40 a group that is made anew", """
                junction 5 = 0
                group 0 2 4 true = 0
                group 0 1 30 true = 1
                conflict 0 0 1 2 2 = 1
                green 0 0 1 0 30 = 1
                press 0 1 = 1
                run 1 = 1
                mount 0 1 0 2 = 1
                press 0 1 = 1
                7 x undo = 1
                account 1 = 1
                group 0 0 4 false = 1
                groupTold 0 1 0 = 0
                groupTold 0 1 1 = 4
                groupTold 0 1 2 = 0
                groupTold 0 1 3 = 0
                groupTold 0 1 4 = 0
                groupTold 0 1 5 = -1
                groupTold 0 1 6 = 0
                groupTold 0 1 7 = 0
                greenOf 0 0 1 true ! NoSuchElement
                clearance 0 1 0 = -1
                """);
    }

    private static void afterUndo() {
        Rows.run("40 what is undone does not come back", """
                junction 0 = 0
                junction 5 = 1
                undo = 1
                junction 3 = 1
                told 1 0 = 3
                account 13 = 2
                undo = 1
                undo = 0
                account 0 = 0
                undo ! IllegalState
                """);
    }

    private static void save() {
        Rows.run("41 the number of junctions, 0 to 4", """
                save = 0
                junction 0 = 0
                save = 1
                junction 1 = 1
                junction 2 = 2
                save = 3
                junction 3 = 3
                save = 4
                save = 4
                restore = 4
                """);
        Rows.run("41 in place of what was saved before", """
                junction 0 = 0
                save = 1
                junction 1 = 1
                junction 2 = 2
                undo = 2
                save = 2
                undo = 1
                undo = 0
                restore = 2
                told 1 0 = 1
                """);
        Rows.run("41 it is no change, and takes none away", """
                8 x run 1 = 0
                save = 0
                account 13 = 8
                undo = 7
                save = 0
                undo = 6
                account 4 = 6
                restore = 0
                account 4 = 7
                """);
    }

    private static void restore() {
        Rows.run("42 nothing was saved", """
                restore ! IllegalState
                junction 0 = 0
                restore ! IllegalState
                undo = 0
                restore ! IllegalState
                save = 0
                restore = 0
                """);
        Rows.run("42 nothing can be undone then", """
                save = 0
                8 x run 1 = 0
                restore = 0
                account 13 = 0
                undo ! IllegalState
                restore = 0
                run 1 = 0
                account 13 = 1
                undo = 0
                account 4 = 0
                undo ! IllegalState
                """);
        Rows.run("42 it is no change", """
                speed 9 = 14
                save = 0
                speed 10 = 9
                restore = 0
                undo ! IllegalState
                account 12 = 9
                """);
    }

    private static void savedStays() {
        Rows.run("42 what was saved stays saved", """
                junction 0 = 0
                group 0 2 4 true = 0
                save = 1
                restore = 1
                make 0 0 = 1
                press 0 0 = 1
                run 1 = 1
                cycle 90 ! IllegalState
                restore = 1
                account 3 = 0
                account 4 = 0
                cycle 90 = 60
                speed 20 = 14
                junction 9 = 1
                restore = 1
                account 11 = 60
                account 12 = 14
                account 0 = 1
                undo ! IllegalState
                """);
        Rows.run("42 undo does not go back behind it", """
                speed 5 = 14
                save = 0
                undo = 0
                account 12 = 14
                restore = 0
                account 12 = 5
                speed 6 = 5
                undo = 0
                account 12 = 5
                """);
    }

    private static void savedWithAllParts() {
        Rows.run("42 all of the last junction", LAST_JUNCTION, """
                press 3 5 = 1
                run 4 = 1
                press 3 4 = 1
                offset 3 0 = 0
                change 3 = 0
                save = 4
                run 5 = 0
                dark 3 0 5 = 20
                dark 3 1 5 = 30
                peace 3 4 5 = 709
                mount 3 5 0 3 = 2
                road 3 0 0 = 54
                cycle 120 = 60
                offset 3 119 = 0
                restore = 4
                account 4 = 4
                account 11 = 60
                told 3 1 = 0
                told 3 4 = 0
                told 3 5 = 4
                groupTold 3 5 4 = 1
                groupTold 3 5 6 = 1
                groupTold 3 4 5 = 4
                account 6 = 1
                account 7 = 1
                account 8 = 3
                greenOf 3 0 5 false = 3
                greenOf 3 0 5 true = 20
                greenOf 3 1 5 false = 11
                greenOf 3 1 5 true = 30
                clearance 3 4 5 = 7
                clearance 3 5 4 = 9
                mount 3 5 2 3 = 1
                road 3 4 5 = 54
                """);
    }
}
