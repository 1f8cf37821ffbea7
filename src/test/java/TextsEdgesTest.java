/** The boundary cases of promises 35 to 39: the buffer, texts, error positions, reports. */
public final class TextsEdgesTest {
    private static final String FIFTY_SIX = "write 12345678901234567890123456789012345678901234567890123456 = 56\n";
    /** Group 0 is by request and on from 10 to 19; group 1 has no green. */
    private static final String ROAD = """
            junction 0 = 0
            group 0 2 4 true = 0
            group 0 2 4 false = 1
            green 0 0 0 10 10 = 1
            """;

    public static void main(String[] args) {
        appendedBytes();
        appendOrder();
        fullBuffer();
        emptyText();
        words();
        signs();
        numbers();
        endsTooEarly();
        secondCommands();
        mostCommands();
        commands();
        commandsNotPossible();
        noneHasAnEffect();
        numbersOfGreen();
        errorPositionStays();
        report();
        reportOfMany();
        character();
        Check.end();
    }

    private static void appendedBytes() {
        int[] wrong = {1, 31, 32, 127, 128, 129, 160, 254, 255};
        int[] right = {33, 34, 97, 125, 126};
        for (int shift = 0; shift < 32; shift += 8) {
            for (int sign : wrong) {
                int among = 0x31313131 & ~(255 << shift) | sign << shift;
                Rows.run("35 a byte of " + sign + " at " + shift, "append " + (sign << shift) + " ! IllegalArgument\n",
                        "append " + among + " ! IllegalArgument\n", "append 0x31313131 = 4\n",
                        "append " + among + " ! IllegalArgument\n", "account 14 = 4");
            }
            for (int sign : right) {
                int among = 0x31313131 & ~(255 << shift) | sign << shift;
                Rows.run("35 a byte of " + sign + " at " + shift, "append " + (sign << shift) + " = 1\n",
                        "append " + among + " = 5\n", "account 14 = 5");
            }
        }
        Rows.run("35 all bytes of the ends", """
                append 0x21212121 = 4
                append 0x7e7e7e7e = 8
                append -1 ! IllegalArgument
                append least ! IllegalArgument
                append most ! IllegalArgument
                append 0 = 8
                """);
    }

    private static void appendOrder() {
        Rows.run("35 from the most significant byte to the least significant one", """
                append 0x72756e3a = 4
                append 0x3132333b = 8
                text = 1
                account 4 = 123
                """);
        Rows.run("35 bytes that are 0 are skipped", """
                append 0x72007500 = 2
                append 0x006e003a = 4
                append 0x31000000 = 5
                append 0 = 5
                append 0x00003200 = 6
                append 0x0000003b = 7
                text = 1
                account 4 = 12
                append 0 = 0
                """);
        Rows.run("35 it is no change", """
                append 0x72756e3a = 4
                account 13 = 0
                undo ! IllegalState
                """);
    }

    private static void fullBuffer() {
        Rows.run("35 more than 60 characters", FIFTY_SIX, """
                append 0x31313131 = 60
                append 0x31000000 ! IllegalState
                append 0x00000031 ! IllegalState
                append 0x31313131 ! IllegalState
                append 0 = 60
                append 0x20000000 ! IllegalArgument # looked at first
                append 0x31313120 ! IllegalArgument
                account 14 = 60
                text ! IllegalArgument
                append 0x31313131 = 4
                """);
        Rows.run("35 58 characters and 2, or 3", FIFTY_SIX, """
                append 0x00310031 = 58
                append 0x31003131 ! IllegalState
                append 0x31313131 ! IllegalState
                append 0x3100317f ! IllegalArgument
                append 0x31000031 = 60
                """);
        Rows.run("35 59 characters and 1, or 2", FIFTY_SIX, """
                append 0x31310031 = 59
                append 0x31003100 ! IllegalState
                append 0x00003100 = 60
                append 0x00003100 ! IllegalState
                """);
    }

    private static void emptyText() {
        Rows.run("36 a text without a command", """
                errorPosition = -1
                text ! IllegalArgument
                errorPosition = 0
                text ! IllegalArgument
                errorPosition = 0
                append 0 = 0
                text ! IllegalArgument
                account 13 = 0
                """);
        Rows.run("36 the buffer is empty afterwards", ROAD, """
                write run:5; = 6
                text = 1
                account 14 = 0
                text ! IllegalArgument
                errorPosition = 0
                write run:5 = 5
                text ! IllegalArgument
                errorPosition = 5
                account 14 = 0
                text ! IllegalArgument
                errorPosition = 0
                write run:301; = 8
                text ! IllegalState
                errorPosition = 0
                account 14 = 0
                write run:1; = 6
                text = 1
                errorPosition = -1
                account 4 = 6
                """);
    }

    /** A text that is not like this has this error position. */
    private static void wrong(int position, String... texts) {
        for (String text : texts) {
            Rows.run("37 " + text, ROAD, "write " + text + "\ntext ! IllegalArgument\nerrorPosition = " + position
                    + "\naccount 14 = 0");
        }
    }

    /** A text that is like this, but with a command that is not possible at this position. */
    private static void impossible(int position, String... texts) {
        for (String text : texts) {
            Rows.run("37 " + text, ROAD, "write " + text + "\ntext ! IllegalState\nerrorPosition = " + position
                    + "\naccount 14 = 0");
        }
    }

    private static void right(int commands, String text) {
        Rows.run("37 " + text, ROAD, "write " + text + "\ntext = " + commands + "\nerrorPosition = -1\naccount 14 = 0");
    }

    private static void words() {
        wrong(0, "a", "z", "ru", "runs", "rum:1;", "tun:1;", "ran:1;", "rn:1;", "un:1;", "runrun:1;", "Run:1;",
                "rUn:1;", "ruN:1;", ":", ";", ",", "1", "!", "~", "`run:1;", "{run:1;", "-run:1;", ":run:1;", "greeN:0,0,0,0,9;");
        wrong(0, "gree", "greens", "offse", "offsets", "pres", "presses", "chang", "changes", "roa", "roads", "junction:5;",
                "speed:9;", "text:1;", "undo:1;", "make:0,0;", "dark:0,0,0;", "mount:0,0,0,0;", "x");
        wrong(3, "run", "run;", "run1", "run1:1;", "run`:1;", "run{:1;", "runR:1;", "run,1;", "run0");
        wrong(5, "green", "green;", "press", "press0", "press;");
        wrong(6, "offset", "change", "change;", "offset,");
        wrong(4, "road", "road;", "road,");
    }

    private static void signs() {
        wrong(4, "run::1;", "run:;", "run:,", "run:a;", "run:-1;", "run:+1;", "run:/;", "run:run:1;", "road;1,2,3;");
        wrong(5, "run:1,2;", "run:1:", "run:1a;", "run:1/;", "run:1-;", "run:0x1;", "run:1.0;");
        wrong(8, "offset:0;", "offset:0:0;", "change:0,");
        wrong(10, "offset:0,0,0;", "offset:0,0:", "offset:0,0a;");
        wrong(9, "offset:0,,0;", "offset:0,;", "offset:0,-1;", "press:0,0,0;", "press:0,0:");
        wrong(7, "press:0;", "offset:,0;", "road:0,;", "change:;", "change:;0;");
        wrong(8, "road:0,0;", "press:0,a;", "press:0,;");
        wrong(10, "road:0,0,0,0;", "road:0,0,0:");
        wrong(9, "road:0,0,;");
        wrong(13, "green:0,0,0,0;");
        wrong(15, "green:0,0,0,0,9,9;", "green:0,0,0,0,9:");
        wrong(14, "green:0,0,0,0,;");
        right(1, "run:1;");
        right(1, "offset:0,0;");
        right(1, "press:0,0;");
        right(1, "change:0;");
        right(1, "road:0,0,0;");
        right(1, "green:0,0,0,0,9;");
    }

    private static void numbers() {
        wrong(5, "run:00;", "run:01;", "run:0300;", "run:00");
        wrong(8, "run:12345;", "run:10000;", "run:99991;", "run:99999");
        wrong(10, "offset:0,00;", "offset:0,01;");
        wrong(8, "offset:00,0;");
        impossible(0, "run:0;", "run:301;", "run:9999;", "run:1000;", "run:1234;");
        impossible(0, "offset:0,60;", "offset:0,9999;", "offset:9999,0;", "press:1,0;", "press:0,9999;", "road:0,0,9999;");
        right(1, "run:300;");
        right(1, "run:12;");
        right(1, "run:123;");
        right(1, "offset:0,59;");
        wrong(8, "run:1234,", "run:1234:", "run:1234", "run:1234a;");
    }

    private static void endsTooEarly() {
        wrong(4, "run:");
        wrong(5, "run:1", "run:0");
        wrong(6, "run:12");
        wrong(7, "run:123", "offset:", "change:");
        wrong(8, "run:1234", "offset:0", "change:0");
        wrong(9, "offset:0,", "press:0,0");
        wrong(10, "offset:0,0", "road:0,0,0");
        wrong(5, "road:");
        wrong(6, "green:", "road:0");
        wrong(15, "green:0,0,0,0,9");
        wrong(60, "run:1;run:1;run:1;run:1;run:1;run:1;run:1;run:1;run:1;run:12");
        wrong(54, "run:1;run:1;run:1;run:1;run:1;run:1;run:1;run:1;run:1;runrun");
        wrong(60, "run:1;run:1;run:1;run:1;run:1;run:1;run:1;run:1;run:1;change");
        wrong(58, "run:1;run:1;run:1;run:1;run:1;run:1;run:1;run:1;run:1;run:,");
        wrong(59, "run:1;run:1;run:1;run:1;run:1;run:1;run:1;run:1;run:1;run:1a");
    }

    private static void secondCommands() {
        wrong(6, "run:1;;", "run:1;:", "run:1;1", "run:1;r", "run:1;ru", "run:1;runs", "run:1;rux:1;", "run:1;Run:1;",
                "run:1;x", "run:1;,run:1;");
        wrong(9, "run:1;run", "run:1;run;");
        wrong(10, "run:1;run:", "run:1;run:;");
        wrong(11, "run:1;run:1", "run:1;run:00;");
        wrong(12, "run:1;run:1;;", "run:1;run:1;o");
        right(2, "run:1;run:1;");
        right(5, "offset:0,1;press:0,0;road:0,1,1;green:0,1,1,0,9;change:0;");
    }

    private static void mostCommands() {
        Rows.run("36 as many commands as the buffer holds", ROAD, """
                write run:1;run:2;run:3;run:4;run:5;run:6;run:7;run:8;run:9;run:9; = 60
                text = 10
                account 4 = 54
                account 13 = 5
                write run:1;run:2;run:3;run:4;run:5;run:6;run:7;run:8;run:9;run:0; = 60
                text ! IllegalState
                errorPosition = 54
                account 4 = 54
                undo = 4
                account 4 = 0
                """);
        Rows.run("36 the same at the end of time", """
                333 x run 300 = 0
                run 90 = 0
                write run:1;run:1;run:1;run:1;run:1;run:1;run:1;run:1;run:1;run:1; = 60
                text ! IllegalState
                errorPosition = 54
                account 4 = 99990
                write run:1;run:1;run:1;run:1;run:1;run:1;run:1;run:1;run:1; = 54
                text = 9
                account 4 = 99999
                """);
    }

    private static void commands() {
        Rows.run("36 in their order", ROAD, """
                write press:0,0;run:11;press:0,0;offset:0,1; = 38
                text = 4
                account 6 = 1
                account 8 = 10
                groupTold 0 0 5 = 11
                told 0 1 = 1
                account 13 = 5
                write offset:0,0;change:0;run:1;offset:0,59; = 38
                text = 4
                told 0 4 = 1
                told 0 1 = 59
                write offset:0,0;run:1;change:0;offset:0,59; = 38
                text ! IllegalState
                errorPosition = 26
                told 0 1 = 59
                told 0 5 = -1
                account 13 = 6
                """);
        Rows.run("36 the numbers of each command", ROAD, """
                write road:0,0,1;green:0,1,0,59,55; = 29
                text = 2
                road 0 1 0 = 1
                greenOf 0 1 0 false = 59
                greenOf 0 1 0 true = 55
                greenOf 0 0 0 true = 10
                write road:0,1,0;offset:0,7;run:9; = 28
                text = 3
                told 0 3 = 2
                undo = 6
                road 0 0 0 = 10
                write green:0,1,1,5,9;green:0,0,1,6,8;green:0,0,0,7,10; = 49
                text = 3
                greenOf 0 1 1 false = 5
                greenOf 0 0 1 true = 8
                greenOf 0 0 0 false = 7
                """);
    }

    private static void commandsNotPossible() {
        impossible(0, "press:0,1;", "press:0,2;", "press:1,0;"); // not by request, no such group or junction
        impossible(0, "offset:1,0;", "offset:0,60;", "road:1,0,0;", "road:0,2,0;", "road:0,0,2;", "change:1;");
        impossible(0, "green:1,0,0,0,9;", "green:0,2,0,0,9;", "green:0,0,2,0,9;", "green:0,0,0,60,9;");
        impossible(0, "green:0,0,0,0,0;", "green:0,0,0,0,61;", "green:0,0,0,0,3;", "green:0,0,0,0,56;");
        impossible(9, "change:0;change:0;", "change:0;offset:0,0;", "change:0;green:0,0,0,0,9;");
        impossible(6, "run:1;run:0;run:1;", "run:1;run:0;run:0;", "run:1;press:0,1;run:301;");
        Rows.run("36 a change for which there is no such time", """
                junction 0 = 0
                2 x group 0 2 4 false = 1
                conflict 0 0 1 11 0 = 1
                green 0 0 0 0 55 = 1
                green 0 1 1 5 55 = 1
                write run:5;change:0; = 15
                text ! IllegalState
                errorPosition = 6
                account 4 = 0
                write run:5; = 6
                text = 1
                """);
        Rows.run("36 the form is looked at first, as far as it goes", ROAD, """
                write run:301;run:1 = 13
                text ! IllegalArgument
                errorPosition = 13
                write press:9,9;x = 11
                text ! IllegalArgument
                errorPosition = 10
                write green:0,0,0,0,3;run = 19
                text ! IllegalArgument
                refusal ! NoSuchElement
                """);
        Rows.run("36 a refused green among the commands", ROAD, """
                write run:1;green:0,0,1,0,3;run:1; = 28
                text ! IllegalState
                errorPosition = 6
                refusal = 1
                account 4 = 0
                """);
    }

    private static void noneHasAnEffect() {
        Rows.run("36 none of the commands has an effect", ROAD, """
                save = 1
                run 5 = 0
                write press:0,0;run:20;road:0,1,1;green:0,0,1,0,9;run:0; = 50
                text ! IllegalState
                errorPosition = 44
                account 4 = 5
                account 7 = 0
                account 6 = 0
                account 13 = 5
                greenOf 0 0 1 true ! NoSuchElement
                write offset:0,5;green:0,0,0,0,4;change:0;run:1;press:0,1; = 52
                text ! IllegalState
                errorPosition = 42
                told 0 1 = 0
                told 0 4 = 0
                greenOf 0 0 0 true = 10
                write change:0;run:0; = 15
                text ! IllegalState
                told 0 5 = -1
                restore = 1
                """);
        Rows.run("36 with eight changes, of which none is lost", """
                speed 5 = 14
                speed 6 = 5
                speed 7 = 6
                speed 8 = 7
                speed 9 = 8
                speed 10 = 9
                speed 11 = 10
                speed 12 = 11
                write run:1;run:0; = 12
                text ! IllegalState
                write run:1; = 6
                text = 1
                8 x undo = 0
                account 12 = 5
                """);
    }

    private static void numbersOfGreen() {
        Rows.run("36 first seconds and lengths at their ends", ROAD, """
                write green:0,1,1,59,55; = 18
                text = 1
                greenOf 0 1 1 false = 59
                greenOf 0 1 1 true = 55
                write green:0,1,1,60,55; = 18
                text ! IllegalState
                write green:0,1,1,59,56; = 18
                text ! IllegalState
                refusal = 2
                write green:0,1,1,0,4;run:1;green:0,1,1,0,5; = 38
                text = 3
                greenOf 0 1 1 true = 5
                write green:0,0,1,0,9;green:0,2,1,0,9; = 32
                text ! IllegalState
                errorPosition = 16
                """);
    }

    private static void errorPositionStays() {
        Rows.run("37 of the text that was carried out or refused most recently", ROAD, """
                errorPosition = -1
                write run:1;run = 9
                errorPosition = -1
                text ! IllegalArgument
                errorPosition = 9
                write run:1; = 6
                errorPosition = 9
                append 0x20 ! IllegalArgument
                undo = 3
                errorPosition = 9
                save = 1
                restore = 1
                errorPosition = 9
                run 301 ! IllegalArgument
                errorPosition = 9
                text = 1
                errorPosition = -1
                undo = 0
                errorPosition = -1
                """);
    }

    private static void report() {
        Rows.run("38 no such junction", "report 0 ! IndexOutOfBounds", ROAD, """
                report -1 ! IndexOutOfBounds
                report 1 ! IndexOutOfBounds
                report least ! IndexOutOfBounds
                report most ! IndexOutOfBounds
                character 0 ! IndexOutOfBounds # still empty
                report 0 = 51
                report 1 ! IndexOutOfBounds
                character 0 = j
                """);
        Rows.run("38 none, and six groups", """
                junction 9999 = 0
                says 0 = junction 0 at 9999: plan 0, second 0, none on, none off
                6 x group 0 2 4 true = 5
                says 0 = junction 0 at 9999: plan 0, second 0, none on, off 0 1 2 3 4 5
                make 0 0 = 1
                says 0 = junction 0 at 9999: plan 0, second 0, on 0 1 2 3 4 5, none off
                """);
        Rows.run("38 the first and the last second of a green", ROAD, """
                run 9 = 0
                says 0 = junction 0 at 0: plan 0, second 9, none on, off 0 1
                run 1 = 0
                says 0 = junction 0 at 0: plan 0, second 10, on 0, off 1
                run 9 = 0
                says 0 = junction 0 at 0: plan 0, second 19, on 0, off 1
                run 1 = 0
                says 0 = junction 0 at 0: plan 0, second 20, none on, off 0 1
                """);
        Rows.run("38 the local second around the cycle", ROAD, """
                cycle 120 ! IllegalState
                offset 0 59 = 0
                says 0 = junction 0 at 0: plan 0, second 1, none on, off 0 1
                offset 0 1 = 59
                says 0 = junction 0 at 0: plan 0, second 59, none on, off 0 1
                dark 0 0 0 = 10
                cycle 120 = 60
                says 0 = junction 0 at 0: plan 0, second 119, none on, off 0 1
                """);
    }

    private static void reportOfMany() {
        Rows.run("38 the last junction, its plan, and a planned change", """
                junction 0 = 0
                junction 10 = 1
                junction 105 = 2
                junction 1000 = 3
                2 x group 3 2 4 false = 1
                green 3 0 0 0 10 = 1
                green 3 1 1 0 10 = 1
                change 3 = 0
                says 3 = junction 3 at 1000: plan 0, second 0, on 0, off 1
                run 1 = 0
                says 3 = junction 3 at 1000: plan 1, second 1, on 1, off 0
                says 2 = junction 2 at 105: plan 0, second 1, none on, none off
                says 1 = junction 1 at 10: plan 0, second 1, none on, none off
                run 300 = 0
                report 0 = 52
                """);
    }

    private static void character() {
        int last = 50; // of "junction 0 at 0: plan 0, second 0, none on, off 0 1"
        Rows.run("39 it is empty at first", """
                character 0 ! IndexOutOfBounds
                character -1 ! IndexOutOfBounds
                junction 0 = 0
                character 0 ! IndexOutOfBounds
                """);
        Rows.run("39 the index", ROAD, "report 0\ncharacter " + last + " = 1\ncharacter " + (last + 1) + " ! IndexOutOfBounds\n", """
                character -1 ! IndexOutOfBounds
                character least ! IndexOutOfBounds
                character most ! IndexOutOfBounds
                character 0 = j
                character 7 = n
                group 0 2 4 false = 2
                """, "character " + (last + 1) + " ! IndexOutOfBounds # it stays as it was written\n", """
                report 0
                """, "character " + (last + 2) + " = 2\ncharacter " + (last + 3) + " ! IndexOutOfBounds\n", """
                undo = 4
                """, "character " + (last + 2) + " = 2 # it does not go back\n", """
                report 0
                """, "character " + last + " = 1\ncharacter " + (last + 1) + " ! IndexOutOfBounds # the one before is away\n", """
                restore ! IllegalState
                save = 1
                restore = 1
                character 0 = j
                """);
    }
}
