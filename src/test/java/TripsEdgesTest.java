/** The boundary cases of promises 22 to 26: trips, bands, best offsets and shares. */
public final class TripsEdgesTest {
    /** One junction whose group 0 is on from 20 to 29; the road has it in both directions. */
    private static final String ONE_JUNCTION = """
            junction 0 = 0
            group 0 0 4 false = 0
            green 0 0 0 20 10 = 1
            road 0 0 0 = -1
            """;
    /** Two junctions one second from each other; on from 0 to 3 both. */
    private static final String TWO_JUNCTIONS = """
            junction 0 = 0
            junction 14 = 1
            group 0 0 4 false = 0
            group 1 0 4 false = 0
            road 0 0 0 = -1
            road 1 0 0 = -1
            green 0 0 0 0 4 = 1
            green 1 0 0 0 4 = 1
            """;

    public static void main(String[] args) {
        outOfRange();
        notPossible();
        waits();
        offsets();
        distances();
        directions();
        whatDoesNotMatter();
        secondBySecond();
        band();
        bestOffset();
        bestOffsetOfSeveral();
        share();
        Check.end();
    }

    private static void outOfRange() {
        Rows.run("22 a number is out of range", ONE_JUNCTION, """
                trip -1 0 0 ! IllegalArgument
                trip 2 0 0 ! IllegalArgument
                trip least 0 0 ! IllegalArgument
                trip most 0 0 ! IllegalArgument
                trip 0 -1 0 ! IllegalArgument
                trip 0 100000 0 ! IllegalArgument
                trip 1 least 0 ! IllegalArgument
                trip 1 most 0 ! IllegalArgument
                trip 0 0 -1 ! IllegalArgument
                trip 0 0 3 ! IllegalArgument
                trip 0 0 least ! IllegalArgument
                trip 0 0 most ! IllegalArgument
                trip 0 0 0 = 20
                trip 1 0 0 = 20
                trip 0 99999 0 = 41
                trip 1 99999 2 = 41
                """);
        Rows.run("22 this goes before a trip that is not possible", """
                trip 2 0 0 ! IllegalArgument
                trip -1 0 0 ! IllegalArgument
                trip 0 -1 0 ! IllegalArgument
                trip 0 100000 0 ! IllegalArgument
                trip 0 0 3 ! IllegalArgument
                trip 0 0 -1 ! IllegalArgument
                trip 0 99999 2 ! NoSuchElement
                trip 1 0 0 ! NoSuchElement
                """);
        Rows.run("23 a number is out of range", ONE_JUNCTION, """
                tripAgain -1 0 ! IllegalArgument
                tripAgain 2 0 ! IllegalArgument
                tripAgain least 0 ! IllegalArgument
                tripAgain most 0 ! IllegalArgument
                tripAgain 0 -1 ! IllegalArgument
                tripAgain 0 100000 ! IllegalArgument
                tripAgain 1 least ! IllegalArgument
                tripAgain 1 most ! IllegalArgument
                tripAgain 0 0 = 20
                tripAgain 1 0 = 20
                tripAgain 0 99999 = 41
                """);
        Rows.run("23, 24, 26 this goes before trips that are not possible", """
                tripAgain 2 0 ! IllegalArgument
                tripAgain 0 100000 ! IllegalArgument
                tripAgain 0 -1 ! IllegalArgument
                tripAgain 1 99999 ! NoSuchElement
                band 2 ! IllegalArgument
                band -1 ! IllegalArgument
                band 0 ! NoSuchElement
                band 1 ! NoSuchElement
                share 2 ! IllegalArgument
                share -1 ! IllegalArgument
                share 0 ! NoSuchElement
                share 1 ! NoSuchElement
                """);
        Rows.run("24, 26 no such direction", ONE_JUNCTION, """
                band -1 ! IllegalArgument
                band 2 ! IllegalArgument
                band least ! IllegalArgument
                band most ! IllegalArgument
                band 0 = 10
                band 1 = 10
                share -1 ! IllegalArgument
                share 2 ! IllegalArgument
                share least ! IllegalArgument
                share most ! IllegalArgument
                share 0 = 10/60
                share 1 = 10/60
                """);
    }

    private static String notPossibleIn(int direction) {
        return """
                trip D 0 0 ! NoSuchElement
                trip D 99999 2 ! NoSuchElement
                tripAgain D 0 ! NoSuchElement
                band D ! NoSuchElement
                bestOffset 0 D ! NoSuchElement
                share D ! NoSuchElement
                """.replace("D", String.valueOf(direction));
    }

    private static void notPossible() {
        Rows.run("22 to 26 no group of the road", """
                junction 0 = 0
                """, notPossibleIn(0), notPossibleIn(1), """
                group 0 0 4 false = 0
                make 0 0 = 1
                """, notPossibleIn(0), notPossibleIn(1), """
                road 0 0 0 = -1
                band 0 = 55
                trip 0 0 0 = 0
                """);
        Rows.run("22 to 26 no group of the road at the last junction", ONE_JUNCTION, """
                junction 14 = 1
                """, notPossibleIn(0), notPossibleIn(1), """
                group 1 0 4 false = 0
                make 1 0 = 1
                """, notPossibleIn(0), notPossibleIn(1), """
                road 1 0 0 = -1
                trip 0 20 0 = 1
                """);
        Rows.run("22 to 26 no group of the road at the first junction", """
                junction 0 = 0
                junction 14 = 1
                group 0 0 4 false = 0
                group 1 0 4 false = 0
                make 0 0 = 1
                make 1 0 = 1
                road 1 0 0 = -1
                """, notPossibleIn(0), notPossibleIn(1), """
                road 0 0 0 = -1
                trip 1 0 0 = 1
                """);
        Rows.run("22 to 26 no green in one direction", """
                junction 0 = 0
                junction 14 = 1
                2 x group 0 0 4 false = 1
                2 x group 1 0 4 false = 1
                make 0 0 = 1
                make 1 0 = 1
                road 0 0 1 = -1
                road 1 0 1 = -1
                dark 1 0 0 = 55
                """, notPossibleIn(0), """
                trip 1 0 0 = 1
                band 1 = 54
                dark 0 0 1 = 55
                """, notPossibleIn(0), notPossibleIn(1), """
                green 1 0 0 0 4 = 2
                trip 0 0 0 = 1
                """, notPossibleIn(1));
        Rows.run("22 to 26 a green in the other plan alone", """
                junction 0 = 0
                group 0 0 4 false = 0
                green 0 1 0 20 10 = 1
                road 0 0 0 = -1
                """, notPossibleIn(0), notPossibleIn(1), """
                change 0 = 0
                trip 0 0 0 ! NoSuchElement # planned only
                run 1 = 0
                trip 0 0 0 = 20
                change 0 = 0
                trip 0 0 0 = 20
                run 1 = 0
                """, notPossibleIn(0));
    }

    private static void waits() {
        Rows.run("22 the first and the last second of a green", ONE_JUNCTION, """
                trip 0 19 0 = 1
                trip 0 19 1 = 1
                trip 0 19 2 = 1
                trip 0 20 0 = 0
                trip 0 20 1 = 0
                trip 0 20 2 = 0
                trip 0 29 0 = 0
                trip 0 29 1 = 0
                trip 0 30 0 = 50
                trip 0 30 1 = 1
                trip 0 30 2 = 50
                trip 0 79 2 = 1
                trip 0 80 2 = 0
                tripAgain 0 19 = 1
                tripAgain 0 20 = 0
                tripAgain 0 29 = 0
                tripAgain 0 30 = 50
                tripAgain 1 80 = 0
                """);
        Rows.run("22 a green around the end of the cycle", ONE_JUNCTION, """
                green 0 0 0 55 10 = 1
                trip 0 54 0 = 1
                trip 0 55 0 = 0
                trip 0 59 0 = 0
                trip 0 0 0 = 0
                trip 0 4 0 = 0
                trip 0 5 0 = 50
                trip 0 60 0 = 0
                trip 0 65 2 = 50
                tripAgain 0 4 = 0
                tripAgain 0 5 = 50
                tripAgain 0 54 = 1
                band 0 = 10
                """);
        Rows.run("22 the longest wait, and none at all", ONE_JUNCTION, """
                green 0 0 0 20 4 = 1
                trip 0 24 0 = 56
                tripAgain 0 24 = 56
                dark 0 0 0 = 4
                cycle 30 = 60
                junction 14 = 1
                group 1 0 30 false = 0
                make 1 0 = 1
                road 1 0 0 = -1
                green 0 0 0 29 4 = 1
                trip 0 3 0 = 27
                trip 0 3 1 = 1 # never at the second one, which is on all the time
                tripAgain 0 3 = 27
                band 0 = 4
                """);
        Rows.run("22 the junctions at which it waits and the seconds", TWO_JUNCTIONS, """
                trip 0 3 0 = 57
                trip 0 3 1 = 1
                trip 0 3 2 = 56
                trip 0 2 0 = 1
                trip 0 2 1 = 0
                trip 0 4 0 = 57
                trip 0 4 1 = 1
                trip 0 4 2 = 56
                """);
        Rows.run("22 a wait at each of four junctions, and at none", """
                junction 0 = 0
                junction 14 = 1
                junction 28 = 2
                junction 42 = 3
                group 0 0 4 false = 0
                group 1 0 4 false = 0
                group 2 0 4 false = 0
                group 3 0 4 false = 0
                road 0 0 0 = -1
                road 1 0 0 = -1
                road 2 0 0 = -1
                road 3 0 0 = -1
                green 0 0 0 50 4 = 1
                green 1 0 0 52 4 = 1
                green 2 0 0 54 4 = 1
                green 3 0 0 56 4 = 1
                trip 0 0 0 = 56
                trip 0 0 1 = 4
                trip 0 0 2 = 53
                trip 0 53 0 = 3
                trip 0 53 1 = 0
                trip 0 53 2 = 0
                trip 0 50 1 = 3
                trip 0 51 1 = 2
                trip 0 52 1 = 1
                trip 1 59 0 = 111 # 59, 60 waits for 114, 115, 116 waits for 170
                trip 1 59 1 = 2
                trip 1 59 2 = 108
                tripAgain 0 0 = 56
                tripAgain 1 59 = 111
                """);
    }

    private static void offsets() {
        Rows.run("22 offsets of 0 and the cycle minus 1", ONE_JUNCTION, """
                offset 0 59 = 0
                trip 0 18 0 = 1
                trip 0 19 0 = 0
                trip 0 28 0 = 0
                trip 0 29 0 = 50
                tripAgain 0 29 = 50
                offset 0 0 = 59
                trip 0 29 0 = 0
                offset 0 1 = 0
                trip 0 20 0 = 1
                trip 0 30 0 = 0
                trip 0 0 0 = 21 # the local second 59
                tripAgain 0 0 = 21
                band 0 = 10
                """);
    }

    private static void distances() {
        String two = """
                speed S = 14
                junction 0 = 0
                junction M = 1
                group 0 0 4 false = 0
                group 1 0 4 false = 0
                make 0 0 = 1
                make 1 0 = 1
                road 0 0 0 = -1
                road 1 0 0 = -1
                trip 0 0 0 = T
                trip 1 0 0 = T
                tripAgain 0 0 = T
                tripAgain 1 0 = T
                """;
        int[][] cases = {{25, 1, 1}, {25, 24, 1}, {25, 25, 1}, {25, 26, 2}, {25, 50, 2}, {25, 51, 3}, {5, 1, 1}, {5, 5, 1},
            {5, 6, 2}, {5, 270, 54}, {5, 271, 60}, {5, 9999, 2000}, {25, 9999, 400}, {14, 9996, 714}, {14, 9997, 720}};
        for (int[] each : cases) {
            // The second one is off at its local seconds 55 to 59.
            Rows.run("22 the distance divided by the speed, rounded up", two.replace("S", "" + each[0])
                    .replace("M", "" + each[1]).replace("T", "" + each[2]));
        }
        Rows.run("22 positions that do not begin at 0, and the last one", """
                junction 9998 = 0
                junction 9999 = 1
                group 0 0 4 false = 0
                group 1 0 4 false = 0
                make 0 0 = 1
                make 1 0 = 1
                road 0 0 0 = -1
                road 1 0 0 = -1
                trip 0 0 0 = 1
                trip 1 53 0 = 1
                trip 1 54 0 = 6
                tripAgain 1 54 = 6
                speed 5 = 14
                trip 0 0 0 = 1
                """);
        Rows.run("22 each distance is rounded up by itself", """
                speed 10 = 14
                junction 0 = 0
                junction 11 = 1
                junction 22 = 2
                group 0 0 4 false = 0
                group 1 0 4 false = 0
                group 2 0 4 false = 0
                make 0 0 = 1
                make 1 0 = 1
                make 2 0 = 1
                road 0 0 0 = -1
                road 1 0 0 = -1
                road 2 0 0 = -1
                trip 0 0 0 = 4
                tripAgain 0 0 = 4
                trip 1 0 0 = 4
                band 0 = 51
                """);
    }

    private static void directions() {
        Rows.run("22 the first junction in a direction, and its group for this direction", """
                junction 0 = 0
                junction 140 = 1
                2 x group 0 0 4 false = 1
                2 x group 1 0 4 false = 1
                road 0 0 1 = -1
                road 1 1 0 = -1
                green 0 0 0 0 4 = 1
                green 0 0 1 30 4 = 2
                green 1 0 0 5 4 = 1
                green 1 0 1 11 5 = 2
                trip 0 0 0 = 11 # 0, at 10 waits for 11
                trip 0 0 1 = 1
                trip 0 1 0 = 10
                trip 0 1 1 = 0
                trip 1 0 0 = 30 # waits for 5, at 15 waits for 30
                trip 1 0 1 = 2
                trip 1 0 2 = 20
                trip 1 8 0 = 22
                trip 1 8 1 = 1
                tripAgain 0 0 = 11
                tripAgain 1 0 = 30
                band 0 = 3
                band 1 = 0
                """);
    }

    private static void whatDoesNotMatter() {
        Rows.run("22 requests and planned changes do not matter", """
                junction 0 = 0
                group 0 0 4 true = 0
                green 0 0 0 20 10 = 1
                green 0 1 0 40 10 = 1
                road 0 0 0 = -1
                trip 0 25 0 = 0
                run 21 = 0 # not given
                trip 0 25 0 = 0
                press 0 0 = 1
                trip 0 30 0 = 50
                change 0 = 0
                trip 0 25 0 = 0
                trip 0 40 0 = 40
                tripAgain 0 40 = 40
                band 0 = 10
                share 0 = 10/60
                run 1 = 0
                trip 0 25 0 = 15
                trip 0 40 0 = 0
                """);
    }

    private static void secondBySecond() {
        Rows.run("23 the longest trip, from the last time on", """
                speed 5 = 14
                cycle 120 = 60
                junction 0 = 0
                junction 1 = 1
                junction 5000 = 2
                junction 9999 = 3
                group 0 0 4 false = 0
                group 1 0 4 false = 0
                group 2 0 4 false = 0
                group 3 0 4 false = 0
                road 0 0 0 = -1
                road 1 0 0 = -1
                road 2 0 0 = -1
                road 3 0 0 = -1
                green 0 0 0 32 4 = 1
                green 1 0 0 0 4 = 1
                green 2 0 0 0 4 = 1
                green 3 0 0 0 4 = 1
                trip 0 99999 0 = 2361 # 113 to wait and 1 to go, 87 and 1000, 80 and 1000, 80
                tripAgain 0 99999 = 2361
                trip 0 99999 1 = 4
                trip 0 99999 2 = 360
                """);
    }

    private static void band() {
        Rows.run("24 one junction: the length of the green", ONE_JUNCTION, """
                band 0 = 10
                green 0 0 0 59 55 = 1
                band 0 = 55
                green 0 0 0 59 4 = 1
                band 1 = 4
                offset 0 59 = 0
                band 1 = 4
                dark 0 0 0 = 4
                offset 0 0 = 59
                cycle 120 = 60
                green 0 0 0 110 115 = 1
                band 0 = 115
                """);
        Rows.run("24 none, one and all times", """
                cycle 30 = 60
                junction 0 = 0
                junction 14 = 1
                group 0 0 30 false = 0
                group 1 0 30 false = 0
                group 1 0 4 false = 1
                make 0 0 = 1
                make 1 0 = 1
                dark 1 0 1 = 30
                road 0 0 0 = -1
                road 1 0 1 = -1
                band 0 = 30
                share 0 = 1/1
                green 1 0 1 3 4 = 2
                band 1 = 4
                group 0 0 4 false = 1
                green 0 0 1 0 4 = 2
                road 0 0 1 = 0
                band 1 = 0
                share 1 = 0/1
                green 0 0 1 4 4 = 2
                band 1 = 4 # 3 to 6, and there a second later
                green 0 0 1 7 4 = 2
                band 1 = 1
                green 0 0 1 1 4 = 2
                band 1 = 1
                """);
        Rows.run("24 the times 0 and the cycle minus 1", TWO_JUNCTIONS, """
                band 0 = 3 # 0 to 2
                green 0 0 0 57 4 = 1
                band 0 = 2 # 59 and 0
                offset 1 1 = 0
                band 0 = 1 # 0
                offset 1 0 = 1
                green 0 0 0 56 4 = 1
                band 0 = 1 # 59
                green 0 0 0 55 4 = 1
                band 0 = 0
                """);
    }

    private static void bestOffset() {
        Rows.run("25 no such junction, direction, or trip, in this order", """
                bestOffset 0 0 ! IndexOutOfBounds
                bestOffset 0 2 ! IndexOutOfBounds
                junction 0 = 0
                bestOffset -1 0 ! IndexOutOfBounds
                bestOffset 1 0 ! IndexOutOfBounds
                bestOffset least 1 ! IndexOutOfBounds
                bestOffset most 1 ! IndexOutOfBounds
                bestOffset 1 2 ! IndexOutOfBounds
                bestOffset -1 -1 ! IndexOutOfBounds
                bestOffset 0 -1 ! IllegalArgument
                bestOffset 0 2 ! IllegalArgument
                bestOffset 0 least ! IllegalArgument
                bestOffset 0 most ! IllegalArgument
                bestOffset 0 0 ! NoSuchElement
                bestOffset 0 1 ! NoSuchElement
                """);
        Rows.run("25 of several the least: 0 with one junction", ONE_JUNCTION, """
                bestOffset 0 0 = 0
                offset 0 59 = 0
                bestOffset 0 1 = 0
                told 0 1 = 59
                account 13 = 5
                change 0 = 0
                bestOffset 0 0 = 0 # also while a change is planned
                """);
        Rows.run("25 of several the least: 0 if the band is 0 with each", """
                junction 0 = 0
                junction 14 = 1
                junction 28 = 2
                group 0 0 4 false = 0
                group 1 0 4 false = 0
                group 2 0 4 false = 0
                road 0 0 0 = -1
                road 1 0 0 = -1
                road 2 0 0 = -1
                green 0 0 0 20 4 = 1
                green 1 0 0 40 4 = 1
                green 2 0 0 0 4 = 1
                offset 2 7 = 0
                bestOffset 2 0 = 0
                bestOffset 0 0 = 0 # the two others do not go together
                """);
    }

    private static void bestOffsetOfSeveral() {
        Rows.run("25 the first and the last offset", TWO_JUNCTIONS, """
                bestOffset 1 0 = 1
                bestOffset 1 1 = 59
                bestOffset 0 0 = 59
                bestOffset 0 1 = 1
                green 1 0 0 1 4 = 1
                bestOffset 1 0 = 0
                bestOffset 1 1 = 58
                green 1 0 0 2 4 = 1
                bestOffset 1 0 = 59
                bestOffset 1 1 = 57
                green 1 0 0 59 4 = 1
                bestOffset 1 0 = 2
                bestOffset 1 1 = 0
                told 1 1 = 0
                account 13 = 8
                """);
        Rows.run("25 a band at the end of the cycle", TWO_JUNCTIONS, """
                green 0 0 0 56 4 = 1
                green 1 0 0 0 4 = 1
                bestOffset 1 0 = 57
                offset 1 57 = 0
                band 0 = 4
                offset 1 56 = 57
                band 0 = 3
                offset 1 58 = 56
                band 0 = 3
                """);
        Rows.run("25 the junction's own offset does not matter", TWO_JUNCTIONS, """
                offset 1 59 = 0
                bestOffset 1 0 = 1
                offset 1 1 = 59
                bestOffset 1 0 = 1
                offset 0 59 = 0
                bestOffset 1 0 = 0
                bestOffset 0 0 = 0
                band 0 = 3
                """);
        Rows.run("25 a longer green: the least of several offsets", TWO_JUNCTIONS, """
                green 1 0 0 0 10 = 1
                bestOffset 1 0 = 0 # -5 to 1
                green 1 0 0 50 10 = 1
                bestOffset 1 0 = 5 # 5 to 11
                band 0 = 0
                """);
        Rows.run("25 a band that is far smaller than the green before it", TWO_JUNCTIONS, """
                green 0 0 0 5 55 = 1
                green 1 0 0 1 4 = 1
                bestOffset 1 0 = 5 # 6 to 9
                band 0 = 0
                offset 1 5 = 0
                band 0 = 4
                """);
        Rows.run("25 a greatest band of one second", """
                junction 0 = 0
                junction 14 = 1
                junction 28 = 2
                group 0 0 4 false = 0
                group 1 0 4 false = 0
                group 2 0 4 false = 0
                road 0 0 0 = -1
                road 1 0 0 = -1
                road 2 0 0 = -1
                green 0 0 0 0 4 = 1
                green 1 0 0 4 4 = 1
                green 2 0 0 50 4 = 1
                bestOffset 2 0 = 12 # 5 is the only one, and the first one with which it is on is 12
                offset 2 11 = 0
                band 0 = 0
                offset 2 12 = 11
                band 0 = 1
                """);
        Rows.run("25 each time of the cycle counts once", TWO_JUNCTIONS, """
                dark 0 0 0 = 4
                dark 1 0 0 = 4
                cycle 100 = 60
                green 0 0 0 15 20 = 1
                green 1 0 0 20 4 = 1
                bestOffset 1 0 = 0 # 96 to 12 are alike
                band 0 = 4
                dark 0 0 0 = 20
                dark 1 0 0 = 4
                cycle 120 = 100
                green 0 0 0 110 20 = 1
                green 1 0 0 1 20 = 1
                bestOffset 1 0 = 110
                """);
        Rows.run("25 the least one around 0", """
                cycle 30 = 60
                junction 0 = 0
                group 0 0 30 false = 0
                make 0 0 = 1
                road 0 0 0 = -1
                bestOffset 0 0 = 0 # each of them, for all times
                band 0 = 30
                """);
    }

    private static void share() {
        Rows.run("26 the band divided by the cycle", ONE_JUNCTION, """
                share 0 = 10/60
                green 0 0 0 20 55 = 1
                share 1 = 55/60
                dark 0 0 0 = 55
                cycle 119 = 60
                green 0 0 0 20 7 = 1
                share 0 = 7/119
                dark 0 0 0 = 7
                cycle 37 = 119
                green 0 0 0 20 11 = 1
                share 0 = 11/37
                junction 14 = 1
                share 0 ! NoSuchElement
                """);
    }
}
