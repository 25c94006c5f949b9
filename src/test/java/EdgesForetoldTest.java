/** The boundary cases of what is foretold, images, and of promises 18 to 30. */
public final class EdgesForetoldTest {
    public static void main(String[] args) {
        gain();
        middle();
        best();
        market();
        longest();
        stretch();
        more();
        moreTies();
        envy();
        both();
        hands();
        rain();
        rainOdds();
        fromNow();
        rowsFromNow();
        image();
        imageHoldsAll();
        Due.end();
    }

    private static void gain() {
        Run.run("18: BAD: alike numbers, too; ahead of NOT", """
            text '......;p20,p30,p40-abcdefghijkl' = 3
            edges gain # 0 0 : 1 .. 2
            edges gain # 2 0 : 0 .. 1
            edges gain 0 # 0 : 1 .. 2
            edges gain 2 # 0 : 0 .. 1
            edges gain 0 1 # : 0 .. 11
            gain 0 0 0 = BAD
            gain 2 2 0 = BAD
            gain 2 0 12 = BAD
            gain 2 0 -1 = BAD
            gain 2 0 0 = NOT
            gain 2 0 11 = NOT
            gain 0 2 0 = 1000
            gain 0 2 11 = 1000
            gain 0 1 11 = 994
            """);
        Run.run("18: by one above 0 and by one below", """
            text 'h.....;o9,f9-a,f9-b' = 3
            gain 0 1 0 = 1001
            gain 0 2 1 = 1001
            make 0 0 1 = 1
            gain 0 1 0 = 1001
            make 0 1 0 = 0
            gain 0 1 0 = 992
            """);
        Run.run("18: the most that others lose by it", """
            text 'h.....;l9>1,l9>0,l9>0,l9>0,l9>0,l9>0' = 6
            gain 0 1 0 = 955
            """);
        Run.run("18: the most that others win by it", """
            text 'h.....;p9+a,l9>0-a,l9>1,l9>1,l9>1,l9>1' = 6
            gain 0 1 0 = 1040
            """);
        Run.run("18: whatever LEAST and CHALK are", """
            text '......;p9-bcdefghijkl,p0-a' = 2
            least 12 = 2
            gain 0 1 0 = 1000
            sell 0 1 0 0 = NOT
            """);
    }

    private static void middle() {
        Run.run("19: BAD: alike numbers, too; ahead of NOT", """
            text '......;p20,p30,p40-abcdefghijkl' = 3
            edges middle # 0 0 : 1 .. 2
            edges middle # 2 0 : 0 .. 1
            edges middle 0 # 0 : 1 .. 2
            edges middle 2 # 0 : 0 .. 1
            edges middle 0 1 # : 0 .. 11
            middle 0 0 0 = BAD
            middle 2 2 0 = BAD
            middle 2 0 12 = BAD
            middle 2 0 -1 = BAD
            middle 2 0 0 = NOT
            middle 2 0 11 = NOT
            middle 0 2 11 = 6
            """);
        Run.run("19: cut: 3 and 6 are 4, 3 and 0 are 1, 0 and 3 are 1", """
            text 'w.....;p9,l9>2-a,p9,p9+a,p9-a' = 5
            has 2 0 1 = 3
            middle 0 1 0 = 5
            middle 0 2 0 = 1
            middle 3 4 0 = 1
            middle 3 2 0 = 0
            """);
        Run.run("19: 0 at least: 5 more to who sells, nothing to who buys", """
            text '......;l9>1+a,r9-ab,p9-a,l9>0' = 4
            middle 0 1 0 = 0
            middle 0 2 0 = 3
            love 0 2 = 1
            middle 0 2 0 = 0
            middle 0 3 0 = 0
            """);
        Run.run("19: LOVE others feel is of no matter", """
            text '......;p9,p9-a,l9>0,l9>1' = 4
            middle 0 1 0 = 6
            gain 0 1 0 = 1000
            love 2 2 = 0
            middle 0 1 0 = 6
            gain 0 1 0 = 1005
            """);
        Run.run("19: the dearest HALF", """
            text 'h.....;l9>2,l9>2-a,p9' = 3
            middle 0 1 0 = 20
            """);
    }

    private static void best() {
        Run.run("20: 0 or 1; BAD ahead of NONE", """
            edges best # : 0 .. 1
            best 0 = NONE
            best 1 = NONE
            best 2 = BAD
            text '......;p9' = 1
            best 0 = NONE
            best 1 = NONE
            """);
        Run.run("20: above 0: 1 is, 0 is not", """
            text 'h.....;o9,f9-a' = 2
            best 0 = 100
            best 1 = 1
            text '......;p9,p9-a' = 2
            gain 0 1 0 = 1000
            best 0 = NONE
            best 1 = NONE
            """);
        Run.run("20: of like ones the first: who sells", """
            text '......;p9-a,r9,r9' = 3
            gain 1 0 0 = 1002
            gain 2 0 0 = 1002
            best 0 = 1000
            best 1 = 2
            """);
        Run.run("20: then who buys", """
            text '......;r9,p9-l,p9-l,p9-a,p9-a' = 5
            gain 0 3 0 = 1002
            gain 0 4 0 = 1002
            best 0 = 300
            """);
        Run.run("20: then the HALF", """
            text '......;r9,p9-ak' = 2
            gain 0 1 0 = 1002
            gain 0 1 10 = 1002
            best 0 = 100
            text '......;r9-a,p9-ak' = 2
            best 0 = 110
            """);
        Run.run("20: who sells comes ahead of who buys and of the HALF, who buys ahead of the HALF", """
            text '......;r9,r9,p9-k,p9-a' = 4
            gain 0 2 10 = 1002
            gain 0 3 0 = 1002
            gain 1 2 10 = 1002
            gain 1 3 0 = 1002
            best 0 = 210
            """);
        Run.run("20: the last of six, the last HALF", """
            text '.....h;p9,p9,p9,p9,f9-l,p9' = 6
            best 0 = 411
            text '.....h;f9,f9,f9,f9,f9-l,f9+l' = 6
            best 0 = 5411
            best 1 = 15
            """);
        Run.run("20: that may be (for nothing)", """
            text 'h.....;p0-bcdefghijk,f0-a' = 2
            best 0 = NONE
            least 1 = 2
            best 0 = 100
            best 1 = 9
            least 12 = 1
            best 0 = NONE
            text 'h.....;p0-bcdefghijk+a,f0-a' = 2
            best 0 = 100
            best 1 = 15
            """);
    }

    private static void market() {
        Run.run("21: 0 or 1", """
            edges market # : 0 .. 1
            market 0 = 0
            market 1 = 0
            text '......;p9' = 1
            market 0 = 0
            market 1 = 72
            """);
        Run.run("21: till there is none; one", """
            text 'h.....;o9,f9-a' = 2
            count 4 = 195
            market 0 = 1
            market 1 = 196
            count 4 = 195
            sell 0 1 0 0 = 9
            market 0 = 0
            market 1 = 196
            """);
        Run.run("21: down to LEAST and no further; several till one is left", """
            text 'hhhhhh;p9,f0-abcdefghijkl' = 2
            market 0 = 10
            market 1 = 162
            least 11 = 2
            market 0 = 1
            least 12 = 11
            market 0 = 0
            market 1 = 72
            least 0 = 12
            market 0 = 12
            market 1 = 180
            """);
        Run.run("21: as many as there are to be had", """
            text '......;p9+abcdefghijkl,p9-abcdefghijkl,p9+abcdefghijkl,p9-abcdefghijkl,p9' = 5
            least 12 = 2
            market 0 = 24
            market 1 = 360
            count 4 = 216
            """);
    }

    private static void longest() {
        Run.run("22: one, 0 or 1", """
            text '......;p9,p9-abcdefghijkl' = 2
            edges longest # 0 : 0 .. 1
            edges longest 0 # : 0 .. 1
            longest 1 2 = BAD
            longest 1 0 = 0
            longest 1 1 = NONE
            longest 0 0 = 12
            longest 0 1 = 0
            """);
        Run.run("22: one behind the other: the last does not touch the first; SUNDAYS touch", """
            text '......;p9-bcdefghijk,p9-abcdefghijk,p9-adefghijkl,p9-bcdefghijkl' = 4
            longest 0 0 = 1
            longest 0 1 = 0
            longest 1 0 = 1
            longest 1 1 = 11
            longest 2 0 = 2
            longest 2 1 = 1
            longest 3 0 = 1
            longest 3 1 = 0
            """);
        Run.run("22: of like ones the first; a longer one behind it; several are no longer", """
            text '......;p9-cf,p9-cfi,p9-bg,p9-dhl+a' = 4
            longest 0 0 = 6
            longest 0 1 = 6
            longest 1 0 = 3
            longest 1 1 = 9
            longest 2 0 = 5
            longest 2 1 = 7
            longest 3 0 = 3
            longest 3 1 = 0
            """);
    }

    private static void stretch() {
        Run.run("23: one, n 1 .. 12, 0 or 1", """
            text '......;p9,p9-abcdefghijkl' = 2
            edges stretch # 1 0 : 0 .. 1
            edges stretch 0 # 0 : 1 .. 12
            edges stretch 0 # 1 : 1 .. 12
            edges stretch 0 1 # : 0 .. 1
            stretch 0 1 0 = 0
            stretch 0 12 0 = 0
            stretch 0 12 1 = 0
            stretch 1 1 0 = 1
            stretch 1 1 1 = 0
            stretch 1 12 0 = 12
            stretch 1 12 1 = 0
            """);
        Run.run("23: the last does not touch the first", """
            text '......;p9-bcdefghijk' = 1
            stretch 0 1 0 = 0
            stretch 0 1 1 = 0
            stretch 0 2 0 = 1
            stretch 0 2 1 = 0
            stretch 0 11 0 = 10
            stretch 0 11 1 = 0
            stretch 0 12 0 = 10
            stretch 0 12 1 = 0
            """);
        Run.run("23: the last place; of like ones the first", """
            text '......;p9-abcdefghijk,p9-abcdefghi' = 2
            stretch 0 1 0 = 0
            stretch 0 1 1 = 11
            stretch 0 2 0 = 1
            stretch 0 2 1 = 10
            stretch 0 11 0 = 10
            stretch 0 11 1 = 1
            stretch 1 2 0 = 0
            stretch 1 2 1 = 9
            stretch 1 3 1 = 9
            stretch 1 4 0 = 1
            stretch 1 4 1 = 8
            """);
    }

    private static void more() {
        Run.run("24: one, k 0 .. 4, c 0 .. 20, 0 or 1", """
            text '......;p9-abcde,p9' = 2
            edges more # 1 1 0 : 0 .. 1
            edges more 0 # 1 0 : 0 .. 4
            edges more 0 1 # 0 : 0 .. 20
            edges more 0 1 1 # : 0 .. 1
            more 0 0 0 0 = 42
            more 0 0 0 1 = 0
            more 0 1 0 0 = 48
            more 0 1 0 1 = 1
            more 0 4 0 0 = 66
            more 0 4 0 1 = 15
            """);
        Run.run("24: that it has not: none is left, and fewer than k", """
            text '......;p9+a,p9-kl' = 2
            more 0 4 0 0 = 72
            more 0 4 0 1 = 0
            more 1 4 0 0 = 72
            more 1 4 0 1 = 3072
            more 1 1 0 1 = 1024
            """);
        Run.run("24: for 20 the dearest is as good as none, for 19 it is better", """
            text 'h.....;l9>1-a,p9' = 2
            of 0 5 = 130
            more 0 4 20 0 = 130
            more 0 4 20 1 = 0
            more 0 4 19 0 = 131
            more 0 4 19 1 = 1
            """);
        Run.run("24: others as they are: who LOVES one, and who is LOVED", """
            text '......;l9>1-a,l9>0-a,l9>0' = 3
            more 0 1 0 0 = 127
            more 0 1 0 1 = 1
            more 1 1 6 1 = 0
            """);
    }

    private static void moreTies() {
        Run.run("24: of like ones the least set (a number): ab is 3, c is 4, ac is 5", """
            text '......;o9-abc' = 1
            of 0 5 = 86
            more 0 2 6 0 = 94
            more 0 2 6 1 = 3
            more 0 1 6 0 = 94
            more 0 1 6 1 = 4
            more 0 3 6 0 = 102
            more 0 3 6 1 = 7
            """);
        Run.run("24: what gains nothing is left out", """
            text '......;p9-ab,r9-ac,r9-abcd' = 3
            more 0 4 6 0 = 60
            more 0 4 6 1 = 0
            more 0 4 5 1 = 3
            more 1 4 4 0 = 52
            more 1 4 4 1 = 0
            more 1 4 3 1 = 5
            more 2 4 5 0 = 42
            more 2 4 5 1 = 10
            more 2 1 0 1 = 2
            more 2 2 0 1 = 10
            more 2 3 0 1 = 11
            """);
        Run.run("24: k 2 of a whole one for an OLD: one alone does not pay", """
            text '......;o9-ef' = 1
            more 0 1 7 0 = 100
            more 0 1 7 1 = 0
            more 0 2 7 0 = 106
            more 0 2 7 1 = 48
            more 0 2 10 1 = 0
            """);
    }

    private static void envy() {
        Run.run("25: one, 0 or 1; BAD ahead of NONE", """
            text '......;p9,p9-a' = 2
            edges envy # 0 : 0 .. 1
            edges envy 0 # : 0 .. 1
            envy 0 0 = NONE
            envy 0 1 = NONE
            envy 0 2 = BAD
            envy 1 0 = 0
            envy 1 1 = 72
            text '......;p9-abc' = 1
            envy 0 0 = NONE
            envy 0 1 = NONE
            """);
        Run.run("25: if that is more than WORTH as it is: as much is not", """
            text 'w.....;p9-ab,p9-c,p9-a' = 3
            envy 0 0 = 2
            envy 0 1 = 63
            envy 1 0 = 2
            envy 2 0 = NONE
            text '......;p9-b,p9-a' = 2
            envy 0 0 = NONE
            envy 1 0 = NONE
            """);
        Run.run("25: of like ones the first, of others the most", """
            text '......;p9-abc,p9-ab,p9-a,p9-b,p9-ab' = 5
            envy 0 0 = 2
            envy 0 1 = 66
            envy 1 0 = 2
            envy 4 0 = 2
            envy 2 0 = NONE
            """);
        Run.run("25: the last of six; who has none envies", """
            text '......;p9-abcdefghijkl,p9-abcdefghijkl,p9-abcdefghijkl,p9-abcdefghijkl,p9-abcdefghijkl,p9' = 6
            envy 0 0 = 5
            envy 0 1 = 72
            envy 4 0 = 5
            envy 5 0 = NONE
            """);
        Run.run("25: others as they are, the other one's, too", """
            text '......;l9>1-abcdef,p9-gh' = 2
            of 0 5 = 56
            envy 0 0 = 1
            envy 0 1 = 110
            """);
    }

    private static void both() {
        Run.run("26: one, and one (or the same)", """
            text '......;p9-ab,p9-bl+c,p9-cdefghijkl' = 3
            edges both # 0 : 0 .. 2
            edges both 0 # : 0 .. 2
            both 0 0 = 4092
            both 0 1 = 2044
            both 1 0 = 2044
            both 0 2 = 0
            both 1 2 = 1
            both 2 2 = 3
            """);
        Run.run("26: none, all", """
            text '......;p9-abcdefghijkl,p9,p9' = 3
            both 0 0 = 0
            both 0 1 = 0
            both 1 2 = 4095
            """);
    }

    private static void hands() {
        Run.run("27: a HALF 0 .. 11", """
            text '......;p9-al,p9-a,p9-a,p9-a+b,p9-a,p9-al' = 6
            edges hands # : 0 .. 11
            hands 0 = 63
            hands 1 = 0
            hands 11 = 33
            """);
    }

    private static void rain() {
        Run.run("28: one, u 0 .. 300, c 0 .. 10, 0 or 1", """
            text '......;p9,p9' = 2
            edges rain # 0 0 0 : 0 .. 1
            edges rain 0 # 0 0 : 0 .. 300
            edges rain 0 # 0 1 : 0 .. 300
            edges rain 0 0 # 0 : 0 .. 10
            edges rain 0 0 0 # : 0 .. 1
            rain 0 300 5 0 = 0
            rain 0 300 5 1 = 1
            rain 0 0 5 0 = 1
            rain 0 0 5 1 = 1
            """);
        Run.run("28: u or more: the WORTH itself is, one more is not", """
            text 'hhhhhh;l9>1,p9-abcdefghijkl,p9' = 3
            rain 0 180 0 0 = 1
            rain 0 181 0 0 = 0
            love 0 2 = 1
            rain 0 240 0 0 = 1
            rain 0 240 0 1 = 1
            rain 0 241 0 0 = 0
            rain 0 241 0 1 = 1
            rain 0 204 10 0 = 1
            rain 0 205 10 0 = 0
            rain 1 0 10 0 = 1
            rain 1 1 0 0 = 0
            rain 1 1 0 1 = 1
            """);
    }

    private static void rainOdds() {
        Run.run("28: one DRY", """
            text 'wwwww.;p9' = 1
            rain 0 36 1 0 = 1
            rain 0 36 1 1 = 1
            rain 0 37 1 0 = 9
            rain 0 37 1 1 = 10
            rain 0 42 1 0 = 9
            rain 0 43 1 0 = 0
            rain 0 43 1 1 = 1
            rain 0 42 5 0 = 1
            rain 0 42 5 1 = 2
            rain 0 42 2 0 = 4
            rain 0 42 2 1 = 5
            rain 0 42 0 0 = 1
            rain 0 42 0 1 = 1
            rain 0 42 10 0 = 0
            rain 0 42 10 1 = 1
            rain 0 42 9 0 = 1
            rain 0 42 9 1 = 10
            """);
        Run.run("28: none DRY: it gets no wetter", """
            text 'wwwwww;p9' = 1
            rain 0 36 10 0 = 1
            rain 0 36 10 1 = 1
            rain 0 37 0 0 = 0
            rain 0 37 0 1 = 1
            """);
        Run.run("28: all DRY", """
            text '......;p9' = 1
            rain 0 72 1 0 = 531441
            rain 0 72 1 1 = 1000000
            rain 0 72 5 0 = 1
            rain 0 72 5 1 = 64
            rain 0 72 9 0 = 1
            rain 0 72 9 1 = 1000000
            rain 0 37 9 0 = 468559
            rain 0 37 9 1 = 1000000
            rain 0 36 9 0 = 1
            rain 0 36 9 1 = 1
            """);
        Run.run("28: a SUNDAY of which one has none is of no matter", """
            text '......;p9-abcdefghij' = 1
            rain 0 12 3 0 = 7
            rain 0 12 3 1 = 10
            rain 0 6 3 0 = 1
            rain 0 13 3 0 = 0
            """);
    }

    /** Three are told by a text, one comes, then much is done: nothing is as the text told it. */
    private static final String DONE_SINCE = """
        text '......;p20,p30,p40' = 3
        person 3 = 3
        love 3 0 = 3
        sell 0 1 0 0 = 20
        make 0 1 1 = 1
        make 5 0 1 = 32
        at 0 1 = 1
        at 5 0 = 1
        """;

    private static void fromNow() {
        Run.run("18 to 28: FORETOLD from now", DONE_SINCE + """
            gain 1 0 0 = 1011
            middle 1 0 0 = 3
            gain 0 1 0 = NOT
            middle 0 1 0 = NOT
            gain 3 0 0 = 991
            middle 3 0 0 = 10
            best 0 = 1000
            best 1 = 11
            longest 0 0 = 11
            longest 0 1 = 1
            longest 3 0 = 12
            stretch 0 12 0 = 1
            stretch 0 11 1 = 1
            stretch 3 12 0 = 0
            more 0 0 0 0 = 60
            more 0 1 0 0 = 66
            more 0 1 0 1 = 1
            more 3 4 0 0 = 139
            envy 0 0 = 1
            envy 0 1 = 66
            envy 3 0 = NONE
            both 0 3 = 4094
            both 3 0 = 4094
            hands 0 = 1
            rain 0 60 5 0 = 1
            rain 0 60 5 1 = 32
            rain 3 139 0 0 = 1
            rain 3 140 0 0 = 0
            market 0 = 1
            market 1 = 342
            count 4 = 331
            """);
        Run.run("18 to 28: FORETOLD from now, of who came last", DONE_SINCE + """
            sell 1 3 0 0 = 30
            sell 1 3 0 0 = 30
            sell 2 3 0 0 = 40
            envy 0 0 = 3
            envy 0 1 = 66
            hands 0 = 7
            seize 3 2 = 1
            sell 3 1 11 0 = 50
            hands 11 = 8
            """);
    }

    private static void rowsFromNow() {
        Run.run("31, 32: as it is now", DONE_SINCE + """
            sheet 0 2 12 = 12
            film 3 12 0 2 0 = 12
            told 3 0 2 0 12 0 = 8
            told 3 0 2 0 12 1 = 1
            love 3 3 = 0
            told 3 0 2 0 12 0 = 0
            film 3 12 0 2 0 = 12
            told 3 0 2 0 12 0 = 10
            told 3 0 2 0 12 1 = 8
            """);
    }

    private static void image() {
        Run.run("30: NONE: there is none", """
            text '......;p20,p30' = 2
            restore = NONE
            image = 1
            restore = 1
            """);
        Run.run("29: an IMAGE of nobody", """
            image = 1
            person 0 = 0
            make 0 0 1 = 1
            restore = 1
            count 0 = 0
            count 2 = 0
            of 0 0 = BAD
            person 2 = 0
            of 0 0 = 2
            """);
        Run.run("29: the latest IMAGE; 30: as often as one likes", """
            text '......;p20,p30' = 2
            image = 1
            give 0 1 1 = 19
            image = 1
            give 0 1 1 = 18
            restore = 1
            of 0 2 = 19
            count 6 = 1
            give 0 1 2 = 17
            give 0 1 2 = 15
            restore = 1
            of 0 2 = 19
            undo = 0
            undo = NONE
            restore = 1
            undo = 0
            of 0 2 = 20
            """);
    }

    private static void imageHoldsAll() {
        Run.run("29: all: KINDS, LOVE, LEAST, CHALK, HALVES, SUNDAYS, THE DRAW, what may be UNDONE", """
            text 'wh....;l20>1-a,f30+b' = 2
            least 12 = 2
            seed 77 = 1
            give 0 1 1 = 19
            make 5 1 1 = 34
            image = 1
            text '......;p1,p2,p3,p4,p5,p6' = 6
            least 0 = 12
            seed 5 = 77
            restore = 1
            count 0 = 2
            count 1 = 12
            count 2 = 1
            count 3 = 34
            of 0 0 = 3
            of 0 1 = 1
            of 0 2 = 19
            of 0 3 = 4094
            has 1 1 0 = 2
            seed 77 = 77
            undo = 1
            count 3 = 2
            undo = 0
            of 0 2 = 20
            undo = NONE
            """);
        Run.run("29: eight that may be UNDONE", """
            drift 8 = 0
            image = 1
            undo = 7
            undo = 6
            drift 40 = 0
            restore = 1
            undo = 7
            undo = 6
            undo = 5
            undo = 4
            undo = 3
            undo = 2
            undo = 1
            undo = 0
            seed 1 = 1
            undo = NONE
            """);
        Run.run("29: all but SHEETS, THE TAPE", """
            sheet 0 2 3 = 3
            sheet 1 2 3 = 3
            type 46 = 1
            image = 1
            type 46 = 2
            drop 0 = 3
            sheet 2 1 5 = 5
            item 1 2 0 6 = 1
            restore = 1
            drop 0 = NULL
            drop 2 = 5
            person 0 = 0
            told 0 1 2 0 1 0 = 11
            type 46 = 3
            read = -23
            restore = 1
            type 46 = 1
            """);
    }
}
