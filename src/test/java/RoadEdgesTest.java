/** The boundary cases of promises 1 to 7: a new object and the road. */
public final class RoadEdgesTest {
    private static final String TWO_JUNCTIONS = """
            junction 0 = 0
            junction 100 = 1
            group 1 2 4 false = 0
            group 1 2 4 true = 1
            """;

    public static void main(String[] args) {
        newObject();
        cycle();
        cycleNotNow();
        speed();
        junction();
        offset();
        localSecond();
        road();
        told();
        litNow();
        Check.end();
    }

    private static void newObject() {
        Rows.run("1 a road without junctions", """
                account 0 = 0
                told 0 0 ! IndexOutOfBounds
                report 0 ! IndexOutOfBounds
                soonest 0 ! IndexOutOfBounds
                bestOffset 0 0 ! IndexOutOfBounds
                trip 0 0 0 ! NoSuchElement
                tripAgain 1 0 ! NoSuchElement
                band 0 ! NoSuchElement
                share 1 ! NoSuchElement
                save = 0
                restore = 0
                """);
        Rows.run("1 nothing was refused, read, reported, served, changed or saved", """
                refusal ! NoSuchElement
                errorPosition = -1
                character 0 ! IndexOutOfBounds
                meanWait ! Arithmetic
                undo ! IllegalState
                restore ! IllegalState
                text ! IllegalArgument
                account 14 = 0
                """);
        Rows.run("1 the first cycle, speed and time", "account 11 = 60", "account 12 = 14", "account 4 = 0");
    }

    private static void cycle() {
        Rows.run("2 the cycle is 30 to 120 seconds, at first 60", """
                cycle 29 ! IllegalArgument
                cycle 30 = 60
                cycle 120 = 30
                cycle 121 ! IllegalArgument
                cycle 0 ! IllegalArgument
                cycle -60 ! IllegalArgument
                cycle least ! IllegalArgument
                cycle most ! IllegalArgument
                account 11 = 120
                cycle 120 = 120 # the same once more is a change
                account 13 = 3
                undo = 2
                undo = 1
                account 11 = 30
                """);
        Rows.run("2 what it bounds goes with it", TWO_JUNCTIONS, """
                cycle 30 = 60
                shows 0 0 29 = 0
                shows 0 0 30 ! IllegalArgument
                offset 0 30 ! IllegalArgument
                hinders 1 0 0 30 4 ! IllegalArgument
                hinders 1 0 0 29 25 = 0
                hinders 1 0 0 29 26 = 2
                hinders 1 0 0 29 31 ! IllegalArgument
                cycle 120 = 30
                shows 0 0 119 = 0
                shows 0 0 120 ! IllegalArgument
                offset 0 119 = 0
                offset 0 120 ! IllegalArgument
                hinders 1 0 0 119 115 = 0
                hinders 1 0 0 119 116 = 2
                hinders 1 0 0 119 120 = 2
                hinders 1 0 0 119 121 ! IllegalArgument
                """);
    }

    private static void cycleNotNow() {
        String[] greens = {"green 1 0 0 0 4", "green 1 1 0 0 4", "green 1 0 1 59 55", "green 1 1 1 3 4", "make 1 1"};
        for (String green : greens) {
            Rows.run("2 a group has a green in some plan: " + green, TWO_JUNCTIONS, green, """
                    cycle 61 ! IllegalState
                    cycle 60 ! IllegalState
                    cycle 29 ! IllegalArgument
                    cycle 121 ! IllegalArgument
                    undo = 4
                    cycle 61 = 60
                    """);
        }
        Rows.run("2 all greens are taken out", TWO_JUNCTIONS, """
                make 1 0 = 1
                dark 1 0 0 = 55
                cycle 61 ! IllegalState
                dark 1 0 1 = 55
                cycle 61 = 60
                """);
        for (int junction = 0; junction < 2; junction++) {
            Rows.run("2 an offset would be too great", TWO_JUNCTIONS, "offset " + junction + " 59 = 0", """
                    cycle 59 ! IllegalState
                    cycle 30 ! IllegalState
                    cycle 29 ! IllegalArgument
                    cycle 60 = 60
                    cycle 120 = 60
                    """, "offset " + junction + " 29 = 59", """
                    cycle 30 = 120
                    """);
        }
        Rows.run("2 an offset of 30 is too great for 30", TWO_JUNCTIONS, """
                offset 1 30 = 0
                cycle 30 ! IllegalState
                cycle 31 = 60
                """);
        for (int junction = 0; junction < 2; junction++) {
            Rows.run("2 a change of plans is planned", TWO_JUNCTIONS, "change " + junction + " = 0", """
                    cycle 61 ! IllegalState
                    cycle 60 ! IllegalState
                    cycle 29 ! IllegalArgument
                    run 1 = 0
                    cycle 61 = 60
                    """);
        }
    }

    private static void speed() {
        Rows.run("3 the speed is 5 to 25 metres a second, at first 14", """
                speed 4 ! IllegalArgument
                speed 5 = 14
                speed 25 = 5
                speed 26 ! IllegalArgument
                speed 0 ! IllegalArgument
                speed -14 ! IllegalArgument
                speed least ! IllegalArgument
                speed most ! IllegalArgument
                account 12 = 25
                speed 25 = 25 # the same once more is a change
                account 13 = 3
                """);
        Rows.run("3 at any time", TWO_JUNCTIONS, """
                make 1 0 = 1
                offset 1 59 = 0
                change 1 = 0
                speed 6 = 14
                """);
    }

    private static void junction() {
        Rows.run("4 a position is from 0 to 9999", """
                junction -1 ! IllegalArgument
                junction 10000 ! IllegalArgument
                junction least ! IllegalArgument
                junction most ! IllegalArgument
                junction 0 = 0
                junction 9999 = 1
                account 0 = 2
                """);
        Rows.run("4 it is greater than that of the one before", """
                junction 7 = 0
                junction 7 ! IllegalArgument
                junction 6 ! IllegalArgument
                junction 0 ! IllegalArgument
                junction 8 = 1
                junction 8 ! IllegalArgument
                junction 7 ! IllegalArgument
                junction 9 = 2
                """);
        Rows.run("4 none can stand behind 9999", """
                junction 9999 = 0
                junction 9999 ! IllegalArgument
                junction 10000 ! IllegalArgument
                told 0 0 = 9999
                undo = 0
                junction 9998 = 0
                """);
        Rows.run("4 at most 4 junctions", """
                junction 1 = 0
                junction 2 = 1
                junction 3 = 2
                junction 4 = 3
                junction 5 ! IllegalState
                junction 9999 ! IllegalState
                junction 4 ! IllegalArgument # looked at first
                junction 3 ! IllegalArgument
                junction -1 ! IllegalArgument
                junction 10000 ! IllegalArgument
                account 0 = 4
                undo = 3
                junction 3 ! IllegalArgument
                junction 5 = 3
                """);
        Rows.run("4 a new junction", """
                junction 0 = 0
                junction 12 = 1
                told 1 0 = 12
                told 1 1 = 0 # the offset is at first 0
                told 1 2 = 0
                told 1 3 = 0
                told 1 4 = 0 # plan 0 is the present one at first
                told 1 5 = -1
                told 1 6 = 0
                told 1 7 = 0
                picture 1 0 -1 = 1
                picture 1 1 -1 = 1
                """);
    }

    private static void offset() {
        Rows.run("5 no such junction", "offset 0 0 ! IndexOutOfBounds", """
                junction 0 = 0
                junction 1 = 1
                offset -1 0 ! IndexOutOfBounds
                offset 1 5 = 0
                offset 2 0 ! IndexOutOfBounds
                offset least 0 ! IndexOutOfBounds
                offset most 0 ! IndexOutOfBounds
                offset 2 60 ! IndexOutOfBounds # looked at first
                offset -1 -1 ! IndexOutOfBounds
                """);
        Rows.run("5 an offset is from 0 to the cycle minus 1", """
                junction 0 = 0
                offset 0 -1 ! IllegalArgument
                offset 0 59 = 0
                offset 0 60 ! IllegalArgument
                offset 0 least ! IllegalArgument
                offset 0 most ! IllegalArgument
                offset 0 0 = 59
                offset 0 0 = 0 # the same once more is a change
                account 13 = 4
                """);
        Rows.run("5 a change of plans is planned at this junction", TWO_JUNCTIONS, """
                change 1 = 0
                offset 1 1 ! IllegalState
                offset 1 0 ! IllegalState
                offset 1 60 ! IllegalArgument # looked at first
                offset 1 -1 ! IllegalArgument
                offset 2 60 ! IndexOutOfBounds
                offset 0 1 = 0 # at another one it is no hindrance
                run 1 = 0
                offset 1 1 = 0
                """);
    }

    private static void localSecond() {
        Rows.run("5 the remainder by the cycle is never negative", """
                junction 0 = 0
                told 0 3 = 0
                offset 0 1
                told 0 3 = 59
                offset 0 59
                told 0 3 = 1
                run 58
                told 0 3 = 59
                run 1
                told 0 3 = 0
                run 300
                told 0 3 = 0
                offset 0 0
                told 0 3 = 59
                run 1
                told 0 3 = 0
                """);
    }

    private static void road() {
        Rows.run("6 no such junction or group", TWO_JUNCTIONS, """
                road -1 0 0 ! IndexOutOfBounds
                road 2 0 0 ! IndexOutOfBounds
                road least 0 0 ! IndexOutOfBounds
                road most 0 0 ! IndexOutOfBounds
                road 0 0 0 ! IndexOutOfBounds # a junction without groups
                road 1 -1 0 ! IndexOutOfBounds
                road 1 2 0 ! IndexOutOfBounds
                road 1 0 -1 ! IndexOutOfBounds
                road 1 0 2 ! IndexOutOfBounds
                road 1 0 least ! IndexOutOfBounds
                road 1 most 0 ! IndexOutOfBounds
                road 1 1 1 = -1
                road 1 0 2 ! IndexOutOfBounds
                road 1 2 0 ! IndexOutOfBounds
                road 1 0 1 = 11
                road 1 0 0 = 1
                road 1 1 0 = 0
                road 1 1 1 = 10
                """);
        Rows.run("6 the groups 0 and 5", """
                junction 0 = 0
                6 x group 0 0 4 false = 5
                road 0 5 5 = -1
                road 0 0 5 = 55
                road 0 5 0 = 5
                road 0 0 0 = 50
                road 0 6 0 ! IndexOutOfBounds
                road 0 0 6 ! IndexOutOfBounds
                road 0 0 0 = 0
                """);
        Rows.run("6 also while a change is planned", TWO_JUNCTIONS, "change 1 = 0", "road 1 0 1 = -1", "road 1 0 1 = 1");
    }

    private static void told() {
        Rows.run("7 no such junction, and what is 0 to 7", "told 0 0 ! IndexOutOfBounds", TWO_JUNCTIONS, """
                told -1 0 ! IndexOutOfBounds
                told 2 0 ! IndexOutOfBounds
                told least 0 ! IndexOutOfBounds
                told most 7 ! IndexOutOfBounds
                told 2 8 ! IndexOutOfBounds # looked at first
                told -1 -1 ! IndexOutOfBounds
                told 1 -1 ! IllegalArgument
                told 1 8 ! IllegalArgument
                told 1 least ! IllegalArgument
                told 1 most ! IllegalArgument
                told 1 0 = 100
                told 1 7 = 0
                """);
        Rows.run("7 the least numbers", """
                junction 0 = 0
                told 0 0 = 0
                told 0 1 = 0
                told 0 2 = 0
                told 0 3 = 0
                told 0 4 = 0
                told 0 5 = -1
                told 0 6 = 0
                told 0 7 = 0
                change 0 = 0
                told 0 5 = 0 # planned for the time 0
                """);
        StringBuilder conflicts = new StringBuilder();
        for (int one = 0; one < 6; one++) {
            for (int other = 0; other < one; other++) {
                conflicts.append("\nconflict 0 ").append(one).append(' ').append(other).append(" 0 0");
            }
        }
        Rows.run("7 the greatest numbers", """
                junction 9999 = 0
                cycle 120 = 60
                6 x group 0 2 4 false = 5
                make 0 0 = 1
                told 0 7 = 63
                dark 0 0 0
                dark 0 0 1
                dark 0 0 2
                dark 0 0 3
                dark 0 0 4
                dark 0 0 5
                """, conflicts.toString(), """
                offset 0 119
                told 0 0 = 9999
                told 0 1 = 119
                told 0 2 = 6
                told 0 3 = 1
                told 0 6 = 15
                run 118
                told 0 3 = 119
                change 0 = 0
                told 0 5 = 118
                told 0 4 = 0
                run 1
                told 0 4 = 1
                told 0 5 = -1
                """);
    }

    private static void litNow() {
        String request = """
                junction 0 = 0
                group 0 1 4 true = 0
                group 0 1 4 false = 1
                green 0 0 0 57 6 = 1
                green 0 0 1 58 5 = 2
                """;
        Rows.run("7 lit, around the end of the cycle", request, """
                offset 0 4
                told 0 3 = 56
                told 0 7 = 0 # before both
                press 0 0 = 1
                run 1 = 0
                told 0 7 = 1 # its first local second, and requested
                told 0 7 = 1
                groupTold 0 0 5 = 0 # asking serves no request
                groupTold 0 0 6 = 0
                run 1 = 1
                told 0 7 = 3
                run 4 = 0
                told 0 3 = 2 # the last one of both
                told 0 7 = 3
                run 1 = 0
                told 0 7 = 0
                groupTold 0 0 6 = 1 # still given
                run 54 = 0
                told 0 3 = 57
                told 0 7 = 0 # its first local second, and not requested, though it was given before
                press 0 0
                told 0 7 = 1
                undo
                run 1 = 0
                press 0 0
                told 0 7 = 2 # requested too late
                """);
        String two = request + """
                green 0 1 0 5 10 = 1
                green 0 1 1 6 9 = 2
                offset 0 55 = 0
                press 0 0 = 1
                """;
        Rows.run("7 planned changes included: for now", two, """
                told 0 3 = 5
                told 0 7 = 0
                change 0 = 0
                told 0 7 = 1 # the first local second by the other plan, and requested
                told 0 4 = 0
                told 0 5 = 0
                run 1 = 1
                told 0 4 = 1
                groupTold 0 0 4 = 1
                told 0 7 = 3
                """);
        Rows.run("7 planned changes included: back to plan 0", two, """
                change 0 = 0
                run 1 = 1
                told 0 4 = 1
                offset 0 3 = 55
                told 0 3 = 58
                told 0 7 = 0
                change 0 = 0
                told 0 7 = 2 # by plan 0, in which group 0 has begun a second ago
                run 1 = 0
                told 0 4 = 0
                groupTold 0 1 4 = 1
                """);
        Rows.run("7 planned changes included: none is given then", two, """
                run 52 = 0
                told 0 3 = 57
                told 0 7 = 1
                run 1 = 1
                told 0 7 = 3
                dark 0 1 1 = 9
                green 0 1 1 58 6 = 2
                green 0 1 0 57 10 = 2
                change 0 = 0
                told 0 7 = 2 # on by the other plan, too, but not from its first local second on
                groupTold 0 0 6 = 1
                run 1 = 0
                groupTold 0 0 6 = 0
                told 0 7 = 2
                """);
        Rows.run("7 planned changes included: for later", two, """
                dark 0 0 1 = 5
                dark 0 1 0 = 10
                conflict 0 0 1 20 20 = 1
                run 53 = 1
                told 0 3 = 58
                change 0 = 17 # behind the green of group 1 by the other plan
                told 0 5 = 70
                told 0 7 = 1
                run 8 = 0
                told 0 3 = 6
                told 0 7 = 0 # not by the other plan yet
                run 9 = 0
                told 0 5 = 70
                green 0 1 1 15 9 ! IllegalState
                told 0 7 = 0
                """);
    }
}
