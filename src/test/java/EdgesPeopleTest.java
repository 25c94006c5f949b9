/** The boundary cases of "Terms" on people and Sundays, and of promises 1 to 10, sentence by sentence. */
public final class EdgesPeopleTest {
    public static void main(String[] args) {
        newObject();
        nobodyThere();
        person();
        love();
        least();
        of();
        has();
        at();
        type();
        read();
        count();
        worths();
        Due.end();
    }

    private static void newObject() {
        Run.run("1: six sundays, nobody; LEAST 2, THE DRAW 1, nothing to be undone, no image, no sheets, no tape", """
            count 0 = 0
            count 1 = 2
            count 2 = 0
            count 3 = 0
            count 4 = 0
            count 5 = 0
            count 6 = 0
            at 0 0 = 0
            at 0 1 = 0
            at 5 0 = 0
            at 5 1 = 0
            undo = NONE
            restore = NONE
            drop 0 = NULL
            drop 3 = NULL
            read = -20
            seed 1 = 1
            """);
    }

    private static void nobodyThere() {
        Run.run("1: nobody: there is no such thing", """
            love 0 0 = BAD
            of 0 0 = BAD
            has 0 0 0 = BAD
            sell 0 1 0 0 = BAD
            seize 0 1 = BAD
            give 0 1 1 = BAD
            gain 0 1 0 = BAD
            middle 0 1 0 = BAD
            longest 0 0 = BAD
            stretch 0 1 0 = BAD
            more 0 0 0 0 = BAD
            envy 0 0 = BAD
            both 0 0 = BAD
            rain 0 0 0 0 = BAD
            told 0 0 0 0 1 0 = BAD
            film 0 1 0 0 0 = BAD
            """);
        Run.run("1: what asks for nobody is answered", """
            hands 0 = 0
            hands 11 = 0
            best 0 = NONE
            best 1 = NONE
            market 0 = 0
            market 1 = 0
            drift 1 = 0
            make 0 0 1 = 1
            image = 1
            restore = 1
            """);
    }

    private static void person() {
        Run.run("2: kinds 0 to 4, numbers as they come, FULL: 6", """
            edges person # : 0 .. 4
            person 0 = 0
            person 1 = 1
            person 2 = 2
            person 3 = 3
            person 4 = 4
            edges person # : 0 .. 4
            person 4 = 5
            of 5 0 = 4
            of 5 1 = 5
            of 5 2 = 50
            of 5 3 = 4095
            of 5 4 = 12
            give 0 1 1 = 49
            image = 1
            sell 0 1 0 0 = 49
            person 0 = FULL
            person 4 = FULL
            person 5 = BAD
            person -1 = BAD
            count 0 = 6
            count 6 = 2
            """);
        Run.run("2: behind a market of five one may come, behind one of six none", """
            text '......;p1,p2,p3,p4,p5' = 5
            person 3 = 5
            person 3 = FULL
            text '......;p1,p2,p3,p4,p5,p6' = 6
            person 3 = FULL
            text '......;p1-abcdefghijkl' = 1
            person 3 = 1
            of 1 2 = 50
            of 1 3 = 4095
            of 1 1 = 1
            """);
        Run.run("2: who comes where another one was before is new", """
            text '......;p9,f7>0-ab+l' = 2
            text '......;p9' = 1
            person 2 = 1
            of 1 0 = 2
            of 1 1 = 1
            of 1 2 = 50
            of 1 3 = 4095
            of 1 4 = 12
            """);
        Run.run("2: a new one of PEOPLE leaves nothing to be UNDONE", """
            make 0 0 1 = 1
            person 0 = 0
            undo = NONE
            count 2 = 1
            """);
    }

    private static void love() {
        Run.run("3: one of PEOPLE loves one of PEOPLE, or itself", """
            text '......;p9,l9,p9' = 3
            edges love # 0 : 0 .. 2
            edges love 0 # : 0 .. 2
            love 0 2 = 0
            love 0 0 = 2
            love 2 0 = 2
            love 2 0 = 0
            love 2 1 = 0
            of 2 1 = 1
            of 1 5 = 72
            love 1 2 = 1
            of 1 5 = 132
            love 1 1 = 2
            of 1 5 = 72
            undo = NONE
            """);
    }

    private static void least() {
        Run.run("4: LEAST is 0 .. 12 (2 at first)", """
            edges least # : 0 .. 12
            least 12 = 2
            least 13 = BAD
            least 0 = 12
            least -1 = BAD
            least 0 = 0
            count 1 = 0
            undo = NONE
            """);
    }

    private static void of() {
        Run.run("5: of one of PEOPLE, 0 to 5", """
            text '......;p9,f99>0' = 2
            edges of # 0 : 0 .. 1
            edges of 0 # : 0 .. 5
            of 2 6 = BAD
            of 1 0 = 1
            of 1 1 = 0
            of 1 2 = 99
            of 1 3 = 4095
            of 1 4 = 12
            of 1 5 = 72
            """);
        Run.run("5: who has none, and no chalk", """
            text '......;o0-abcdefghijkl' = 1
            of 0 2 = 0
            of 0 3 = 0
            of 0 4 = 0
            of 0 5 = 0
            """);
        Run.run("5: who has two of each: a set tells them once, in all they are 24", """
            text '......;p9+abcdefghijkl' = 1
            of 0 3 = 4095
            of 0 4 = 24
            of 0 5 = 72
            """);
        Run.run("5: all of a half come to one, all chalk to another one", """
            text '......;p99+a,p99+a,p99+a,p99+a,p99+a,p99+a' = 6
            sell 1 0 0 0 = 99
            sell 1 0 0 0 = 99
            sell 2 0 0 0 = 99
            sell 2 0 0 0 = 99
            sell 3 0 0 0 = 99
            sell 3 0 0 0 = 99
            sell 4 0 0 0 = 99
            sell 4 0 0 0 = 99
            sell 5 0 0 0 = 99
            sell 5 0 0 0 = 99
            has 0 0 0 = 12
            has 0 0 1 = 6
            of 0 4 = 23
            hands 0 = 62
            give 0 5 99 = 0
            give 1 5 99 = 0
            give 2 5 99 = 0
            give 3 5 99 = 0
            give 4 5 99 = 0
            of 5 2 = 594
            count 5 = 594
            """);
    }

    private static void has() {
        Run.run("6: one, a half 0 .. 11, 0 or 1", """
            text '......;p9-a+l,p9-l' = 2
            edges has # 0 0 : 0 .. 1
            edges has 0 # 0 : 0 .. 11
            edges has 0 0 # : 0 .. 1
            has 0 0 0 = 0
            has 0 0 1 = 0
            has 0 1 0 = 1
            has 0 11 0 = 2
            has 0 11 1 = 6
            has 1 11 0 = 0
            has 1 11 1 = 0
            """);
    }

    private static void at() {
        Run.run("7: a SUNDAY 0 .. 5, 0 or 1", """
            text 'w....h;p9' = 1
            edges at # 0 : 0 .. 5
            edges at 0 # : 0 .. 1
            at 0 0 = 1
            at 0 1 = 0
            at 5 0 = 0
            at 5 1 = 1
            at 1 0 = 0
            at 4 1 = 0
            """);
    }

    private static void type() {
        Run.run("8: letters 32 .. 126", """
            edges type # : 32 .. 126
            type 31 = BAD
            type 127 = BAD
            type 32 = 1
            type 126 = 2
            type 31 = BAD
            type 127 = BAD
            type 288 = BAD
            type 65582 = BAD
            read = -21
            type 126 = 1
            """);
        StringBuilder hundred = new StringBuilder();
        for (int i = 1; i <= 99; i++) {
            hundred.append("type 32 = ").append(i).append('\n');
        }
        Run.run("8: FULL: 100, BAD ahead of it, and the tape stays", hundred + """
            type 126 = 100
            type 126 = FULL
            type 32 = FULL
            type 31 = BAD
            type 127 = BAD
            read = -119
            type 32 = 1
            """);
        Run.run("8: a hundred blanks, the end", hundred + """
            type 32 = 100
            type 46 = FULL
            read = -120
            """);
        Run.run("8: a market of a hundred letters", """
            text '......;p99>0-abcdefghijkl+abcdefghijkl,p99>0-abcdefghijkl+abcdefghijkl,p99>0-abcdefghijkl+abcdefghi' = 3
            of 2 3 = 511
            has 2 8 0 = 1
            has 2 9 0 = 0
            """);
    }

    private static void read() {
        Run.run("9: THE TAPE is empty behind a market, and behind a fault", """
            text '......;p9' = 1
            read = -20
            text '......;p' = -28
            read = -20
            type 46 = 1
            """);
        Run.run("9: a fault: all else stays", """
            text 'wh....;l9>1-a,p8+b' = 2
            least 5 = 2
            seed 77 = 1
            give 0 1 4 = 5
            image = 1
            give 0 1 1 = 4
            sheet 1 2 3 = 3
            item 1 2 1 6 = 1
            text '......;p9,' = -30
            text '......;p9>1' = -31
            text '' = -20
            text 'x' = -20
            count 0 = 2
            count 2 = 1
            count 6 = 2
            """);
        Run.run("9: LEAST, THE DRAW stay, whatever they are in the IMAGE", """
            least 12 = 2
            seed 7 = 1
            text '......;p1,p2' = 2
            count 1 = 12
            image = 1
            least 0 = 12
            seed 8 = 7
            text '......;p1,p2' = 2
            count 1 = 0
            seed 9 = 8
            """);
        Run.run("9: in place of all PEOPLE, SUNDAYS; LEAST, THE DRAW, sheets, the image stay", """
            text 'bbbbbb;f9-abc,p8,p7,p6' = 4
            least 12 = 2
            seed 2147483647 = 1
            image = 1
            sheet 3 0 2 = 2
            make 0 0 0 = 62
            text '......;p1,p2' = 2
            undo = NONE
            count 0 = 2
            count 1 = 12
            count 2 = 0
            count 3 = 0
            of 0 3 = 4095
            of 2 0 = BAD
            seed 5 = 2147483647
            drop 3 = 2
            restore = 1
            count 0 = 4
            of 0 3 = 4088
            count 2 = 63
            """);
    }

    private static void count() {
        Run.run("10: 0 to 6", """
            edges count # : 0 .. 6
            text 'bbbbbb;p0,r99,p99,p99,p99,p99' = 6
            edges count # : 0 .. 6
            count 0 = 6
            count 1 = 2
            count 2 = 63
            count 3 = 63
            count 4 = 222
            count 5 = 495
            count 6 = 0
            """);
        Run.run("10: who has none", """
            text '......;p0-abcdefghijkl,l0>0' = 2
            count 4 = 72
            count 5 = 0
            text '......;p7-abcdefghijk,l0>0,r0-abcdefghijk' = 3
            count 4 = 89
            count 5 = 7
            text '......;p0,l0,r7' = 3
            count 5 = 7
            """);
    }

    private static void worths() {
        Run.run("PLAIN: 6; 3, if WET", """
            text '.whb..;p9' = 1
            has 0 0 1 = 6
            has 0 2 1 = 3
            has 0 5 1 = 6
            has 0 7 1 = 3
            has 0 11 1 = 6
            of 0 5 = 60
            """);
        Run.run("FARMER: 9 more, if HARVEST", """
            text '.whb..;f9' = 1
            has 0 1 1 = 6
            has 0 3 1 = 3
            has 0 4 1 = 15
            has 0 6 1 = 12
            of 0 5 = 96
            """);
        Run.run("OLD: 4 more, if one has the other HALF of that SUNDAY (not the one beside it on another)", """
            text '.wh...;o9-adf+b' = 1
            has 0 1 0 = 2
            has 0 1 1 = 6
            has 0 2 1 = 3
            has 0 4 1 = 6
            has 0 6 1 = 10
            has 0 7 1 = 10
            make 3 0 1 = 10
            has 0 6 1 = 7
            make 3 1 1 = 12
            has 0 7 1 = 7
            """);
        Run.run("LOVER: as FARMER; 5 more, if who is LOVED has that HALF, too", """
            text '.whb..;l9>1-l,p9-bdfh+a' = 2
            has 0 0 1 = 11
            has 0 1 1 = 6
            has 0 2 1 = 8
            has 0 3 1 = 3
            has 0 4 1 = 20
            has 0 5 1 = 15
            has 0 6 1 = 17
            has 0 7 1 = 12
            has 0 11 1 = 0
            love 0 0 = 1
            has 0 0 1 = 6
            has 0 2 1 = 3
            has 0 4 1 = 15
            has 0 6 1 = 12
            """);
        Run.run("LOVE is of no matter to other kinds", """
            text '......;p9>4,f9>4,o9>4,r9>4,p9' = 5
            of 0 5 = 72
            of 1 5 = 72
            of 2 5 = 120
            of 3 5 = 60
            """);
        Run.run("RINGER: as OLD, but a morning: nothing", """
            text '.whb..;r9-adj' = 1
            has 0 1 1 = 6
            has 0 2 1 = 0
            has 0 4 1 = 0
            has 0 5 1 = 10
            has 0 6 1 = 0
            has 0 7 1 = 7
            has 0 8 1 = 0
            has 0 10 1 = 0
            has 0 11 1 = 10
            of 0 5 = 33
            """);
        Run.run("several no more than one", """
            text '......;p9+a,o9-b+a,l9>3-a+b,p9+ab' = 4
            has 0 0 1 = 6
            of 0 5 = 72
            has 1 0 1 = 6
            of 1 5 = 106
            has 2 1 1 = 11
            of 2 5 = 121
            """);
    }
}
