/** The boundary cases of promises 32 to 34: accounts, shares of the time, the mean wait. */
public final class AccountsEdgesTest {
    private static final String ALL_LIT = """
            cycle 30 = 60
            junction 0 = 0
            group 0 2 30 false = 0
            group 0 2 4 true = 1
            make 0 0 = 1
            """;

    public static void main(String[] args) {
        what();
        newRoad();
        full();
        grows();
        litShareNotThere();
        litShare();
        meanWait();
        Check.end();
    }

    private static void what() {
        Rows.run("32 what is 0 to 14", """
                account -1 ! IllegalArgument
                account 15 ! IllegalArgument
                account least ! IllegalArgument
                account most ! IllegalArgument
                account 0 = 0
                account 14 = 0
                """);
    }

    private static void newRoad() {
        Rows.run("32 of a new road", """
                account 0 = 0
                account 1 = 0
                account 2 = 0
                account 3 = 0
                account 4 = 0
                account 5 = 0
                account 6 = 0
                account 7 = 0
                account 8 = 0
                account 9 = 0
                account 10 = 0
                account 11 = 60
                account 12 = 14
                account 13 = 0
                account 14 = 0
                """);
    }

    /** Four junctions with six groups each, three of them in conflict, three heads on the last ones. */
    private static void full() {
        StringBuilder rows = new StringBuilder("""
                junction 0 = 0
                junction 1 = 1
                junction 2 = 2
                junction 3 = 3
                """);
        String each = """
                5 x group J 2 4 true = 4
                group J 2 4 false = 5
                conflict J 0 4 1 1 = 1
                conflict J 0 5 1 1 = 2
                conflict J 4 5 1 1 = 3
                make J 0 = 3
                make J 1 = 3
                press J 0 = 1
                press J 4 = 2
                mount J 5 0 0 = 1
                mount J 5 1 0 = 2
                mount J 5 2 0 = 3
                """;
        for (int junction = 0; junction < 4; junction++) {
            rows.append(each.replace("J", String.valueOf(junction)));
        }
        rows.append("""
                run 20 = 4
                change 0
                change 1
                change 2
                change 3
                account 0 = 4
                account 1 = 24
                account 2 = 12
                account 3 = 48
                account 4 = 20
                account 5 = 76
                account 6 = 4
                account 7 = 4
                account 8 = 0
                account 9 = 4
                account 10 = 12
                account 13 = 8
                junction 4 ! IllegalState
                group 3 2 4 true ! IllegalState
                """);
        Rows.run("32 of a full road", rows.toString());
    }

    private static void grows() {
        Rows.run("32 greens, conflicts, heads and requests that come and go", """
                junction 0 = 0
                2 x group 0 2 4 true = 1
                conflict 0 0 1 0 0 = 1
                account 2 = 1
                conflict 0 1 0 3 3 = 1
                account 2 = 1
                peace 0 0 1 = 303
                account 2 = 0
                green 0 1 1 0 10 = 1
                account 3 = 1
                green 0 1 1 5 10 = 1
                account 3 = 1
                dark 0 1 1 = 10
                account 3 = 0
                mount 0 1 2 3 = 1
                mount 0 1 2 0 = 1
                account 10 = 1
                press 0 0 = 1
                press 0 0 = 1
                account 7 = 1
                undo = 7
                account 7 = 1
                undo = 6
                account 7 = 0
                """);
        Rows.run("32 the changes that can be undone, the characters, the cycle, the speed", """
                7 x speed 25
                account 12 = 25
                account 13 = 7
                speed 5 = 25
                account 13 = 8
                cycle 30 = 60
                account 13 = 8
                account 11 = 30
                cycle 120 = 30
                account 11 = 120
                account 12 = 5
                write 123456789012345678901234567890123456789012345678901234567890
                account 14 = 60
                text ! IllegalArgument
                account 14 = 0
                undo = 7
                account 13 = 7
                save = 0
                restore = 0
                account 13 = 0
                account 11 = 30
                """);
        Rows.run("32 the time, what is lit, served and waited for", ALL_LIT, """
                press 0 1 = 1
                run 1 = 1
                account 4 = 1
                account 5 = 2
                account 6 = 1
                account 8 = 0
                press 0 1 = 1
                run 29 = 0
                account 5 = 60
                account 6 = 1
                account 7 = 1
                account 8 = 0 # not for the ones that wait
                run 1 = 1
                account 6 = 2
                account 7 = 0
                account 8 = 29
                run 300 = 0
                account 5 = 391
                """);
    }

    private static void litShareNotThere() {
        Rows.run("33 no such junction or group, or the time is 0", "litShare 0 0 ! IndexOutOfBounds", ALL_LIT, """
                litShare -1 0 ! IndexOutOfBounds
                litShare 1 0 ! IndexOutOfBounds
                litShare 0 -1 ! IndexOutOfBounds
                litShare 0 2 ! IndexOutOfBounds
                litShare least 0 ! IndexOutOfBounds
                litShare most 0 ! IndexOutOfBounds
                litShare 0 least ! IndexOutOfBounds
                litShare 0 most ! IndexOutOfBounds
                litShare 0 0 ! Arithmetic
                litShare 0 1 ! Arithmetic
                run 1 = 0
                litShare 1 0 ! IndexOutOfBounds
                litShare 0 2 ! IndexOutOfBounds
                litShare 0 0 = 1/1
                litShare 0 1 = 0/1
                undo = 5
                litShare 0 0 ! Arithmetic
                """);
    }

    private static void litShare() {
        Rows.run("33 none, some and all of the time", ALL_LIT, """
                run 1 = 0
                litShare 0 0 = 1/1
                dark 0 0 0 = 30
                run 1 = 0
                litShare 0 0 = 1/2
                run 1 = 0
                litShare 0 0 = 1/3
                run 7 = 0
                litShare 0 0 = 1/10
                run 300 = 0
                litShare 0 0 = 1/310
                litShare 0 1 = 0/310
                make 0 0 = 1
                run 300 = 0
                litShare 0 0 = 301/610
                junction 1 = 1
                group 1 2 4 false = 0
                litShare 1 0 = 0/1
                """);
        Rows.run("33 the smallest share, and the greatest one below 1", """
                cycle 30 = 60
                junction 0 = 0
                2 x group 0 2 30 false = 1
                make 0 0 = 1
                run 1 = 0
                dark 0 0 0 = 30
                dark 0 0 1 = 30
                run 1 = 0
                make 0 0 = 1
                dark 0 0 0 = 30
                332 x run 300 = 0
                run 300 = 0
                run 97 = 0
                account 4 = 99999
                litShare 0 0 = 1/99999
                litShare 0 1 = 99998/99999
                """);
    }

    private static void meanWait() {
        Rows.run("34 none was served", ALL_LIT, """
                meanWait ! Arithmetic
                press 0 1 = 1
                meanWait ! Arithmetic # it waits only
                run 1 = 1
                meanWait = 0/1
                undo = 6
                meanWait ! Arithmetic
                """);
        Rows.run("34 one that waited, one that did not, and one that waits", ALL_LIT, """
                run 1 = 0
                press 0 1 = 1
                run 29 = 0
                meanWait ! Arithmetic
                run 1 = 1
                meanWait = 29/1
                run 29 = 0
                press 0 1 = 1
                meanWait = 29/1
                run 1 = 1
                meanWait = 29/2
                run 3 = 0
                press 0 1 = 1
                run 26 = 0
                meanWait = 29/2
                run 1 = 1
                meanWait = 55/3
                """);
        Rows.run("34 of all junctions", """
                junction 0 = 0
                junction 1 = 1
                group 0 2 4 true = 0
                group 1 2 4 true = 0
                green 0 0 0 5 4 = 1
                green 1 0 0 8 4 = 1
                press 0 0 = 1
                press 1 0 = 1
                run 6 = 1
                meanWait = 5/1
                run 3 = 1
                meanWait = 13/2
                """);
    }
}
