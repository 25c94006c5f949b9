/** The boundary cases of "Terms" on sales, what is seized, given, undone, the draw, and of promises 11 to 17. */
public final class EdgesDeedsTest {
    public static void main(String[] args) {
        sellNumbers();
        sellMoreThanLeast();
        sellForChalk();
        seize();
        seizeTheDearest();
        give();
        make();
        drift();
        driftSales();
        driftDraws();
        undo();
        undoKnowsEight();
        undoLeavesNothing();
        seed();
        Due.end();
    }

    private static void sellNumbers() {
        Run.run("11: BAD: alike numbers, too", """
            text '......;p20,p30-l,p40-abcdefghijkl' = 3
            edges sell # 0 0 0 : 1 .. 2
            edges sell # 2 0 0 : 0 .. 1
            edges sell 0 # 0 0 : 1 .. 2
            edges sell 2 # 0 0 : 0 .. 1
            edges sell 0 1 # 0 : 0 .. 11
            edges sell 0 1 0 # : 0 .. 99
            sell 0 0 0 0 = BAD
            sell 2 2 0 0 = BAD
            sell 2 0 12 0 = BAD
            sell 2 0 0 100 = BAD
            sell 1 0 11 -1 = BAD
            count 6 = 0
            """);
    }

    private static void sellMoreThanLeast() {
        Run.run("11: NOT: one has it not", """
            text '......;p20-al,p30' = 2
            least 0 = 2
            sell 0 1 0 0 = NOT
            sell 0 1 11 0 = NOT
            sell 0 1 1 0 = 20
            sell 0 1 1 0 = NOT
            """);
        Run.run("11: more than LEAST (unlike ones), 2", """
            text '......;p9-defghijkl,p9' = 2
            sell 0 1 0 0 = 9
            sell 0 1 1 0 = NOT
            sell 0 1 2 0 = NOT
            of 0 3 = 6
            has 1 0 0 = 2
            """);
        Run.run("11: or several of this", """
            text '......;p9-cdefghijkl+ab,p9' = 2
            of 0 4 = 4
            sell 0 1 0 0 = 9
            sell 0 1 0 0 = NOT
            sell 0 1 1 0 = 9
            sell 0 1 1 0 = NOT
            of 0 3 = 3
            """);
        Run.run("11: LEAST 0: the last one, too", """
            text '......;p9-abcdefghijk,p9' = 2
            least 1 = 2
            sell 0 1 11 0 = NOT
            least 0 = 1
            sell 0 1 11 0 = 9
            of 0 3 = 0
            sell 0 1 11 0 = NOT
            """);
        Run.run("11: LEAST 12: none but several; 11: one of all", """
            text '......;p9+a,p9' = 2
            least 12 = 2
            sell 0 1 1 0 = NOT
            sell 0 1 0 0 = 9
            sell 0 1 0 0 = NOT
            least 11 = 12
            sell 0 1 0 0 = 9
            sell 0 1 1 0 = NOT
            """);
    }

    private static void sellForChalk() {
        Run.run("11: the other one has so much CHALK, all of it", """
            text '......;p20,p30,p0' = 3
            sell 0 1 0 31 = NOT
            sell 0 1 0 30 = 50
            of 1 2 = 0
            sell 0 1 1 1 = NOT
            sell 0 1 1 0 = 50
            sell 0 2 2 1 = NOT
            sell 2 0 2 50 = 50
            of 0 2 = 0
            count 6 = 3
            """);
        Run.run("11: CHALK 0 .. 99", """
            text '......;p98,p99' = 2
            sell 1 0 0 99 = NOT
            sell 1 0 0 98 = 197
            sell 0 1 0 99 = 99
            sell 0 1 1 99 = NOT
            sell 0 1 1 98 = 197
            """);
    }

    private static void seize() {
        Run.run("12: BAD: alike numbers, too; ahead of NOT", """
            text '......;p20,p30,p40-abcdefghijkl' = 3
            edges seize # 0 : 1 .. 2
            edges seize # 2 : 0 .. 1
            edges seize 0 # : 1 .. 2
            edges seize 2 # : 0 .. 1
            seize 0 0 = BAD
            seize 2 2 = BAD
            seize 2 3 = BAD
            seize 2 -1 = BAD
            seize 2 0 = NOT
            count 6 = 0
            """);
        Run.run("12: whatever LEAST is, to the last one; then NOT", """
            text '......;p20-abcdefghij,p0' = 2
            least 12 = 2
            seize 0 1 = 10
            seize 0 1 = 11
            seize 0 1 = NOT
            of 0 3 = 0
            of 0 2 = 20
            of 1 2 = 0
            has 1 11 0 = 2
            count 6 = 2
            """);
        Run.run("12: of several one goes, the other one stays", """
            text '......;p20-abcdefghijk+l,p0-l' = 2
            seize 0 1 = 11
            has 0 11 0 = 1
            has 1 11 0 = 1
            seize 0 1 = 11
            seize 0 1 = NOT
            """);
    }

    private static void seizeTheDearest() {
        Run.run("12: WORTH most to it, of like ones the first", """
            text 'w....h;f20-k,p0' = 2
            seize 0 1 = 11
            seize 0 1 = 2
            seize 0 1 = 3
            """);
        Run.run("12: all worth nothing", """
            text '......;r20-abdfhjl,p0' = 2
            of 0 5 = 0
            seize 0 1 = 2
            seize 0 1 = 4
            """);
        Run.run("12: as it has all now: what it would lose beside is of no matter", """
            text 'w.....;o20-adfhj,p0' = 2
            seize 0 1 = 10
            seize 0 1 = 2
            seize 0 1 = 4
            """);
        Run.run("12: as who is LOVED has it, ahead of it", """
            text '......;l20>1,p0-abcdefghijk' = 2
            seize 0 1 = 11
            seize 0 1 = 0
            seize 0 1 = 1
            """);
    }

    private static void give() {
        Run.run("13: n 1 .. 99, BAD: alike numbers, too; ahead of NOT", """
            text '......;p99,p30,p0' = 3
            edges give # 0 1 : 1 .. 2
            edges give # 2 1 : 0 .. 1
            edges give 0 # 1 : 1 .. 2
            edges give 2 # 1 : 0 .. 1
            edges give 0 1 # : 1 .. 99
            give 0 0 1 = BAD
            give 2 2 1 = BAD
            give 2 0 0 = BAD
            give 2 0 100 = BAD
            give 2 0 1 = NOT
            count 6 = 0
            """);
        Run.run("13: NOT: there is not so much", """
            text '......;p98,p30' = 2
            give 0 1 99 = NOT
            give 1 0 31 = NOT
            give 1 0 30 = 0
            give 1 0 1 = NOT
            give 0 1 99 = 29
            of 1 2 = 99
            give 1 0 99 = 0
            of 0 2 = 128
            give 0 1 1 = 127
            """);
    }

    private static void make() {
        Run.run("14: a SUNDAY 0 .. 5, 0 or 1, 0 or 1", """
            edges make # 0 1 : 0 .. 5
            edges make 0 # 1 : 0 .. 1
            edges make 0 0 # : 0 .. 1
            make 6 0 0 = BAD
            make 0 2 0 = BAD
            make 0 0 2 = BAD
            make 0 0 -1 = BAD
            """);
        Run.run("14: NOT: it is so", """
            make 0 0 0 = NOT
            make 5 1 0 = NOT
            make 0 0 1 = 1
            make 0 0 1 = NOT
            make 5 0 1 = 33
            make 5 1 0 = NOT
            make 5 1 1 = 32
            make 5 1 1 = NOT
            make 5 0 1 = NOT
            make 0 0 0 = 32
            make 0 0 0 = NOT
            make 5 1 0 = 0
            make 5 0 0 = 0
            count 2 = 0
            count 3 = 0
            count 6 = 6
            """);
        Run.run("14: all SUNDAYS", """
            text 'wwwwwh;p9' = 1
            make 5 0 1 = 63
            make 0 1 1 = 33
            make 2 0 0 = 59
            """);
    }

    private static void drift() {
        Run.run("15: n 1 .. 40", """
            text '......;p20,p30' = 2
            edges drift # : 1 .. 40
            count 6 = 0
            """);
        Run.run("15: nothing without PEOPLE, but each by itself may be UNDONE", """
            edges drift # : 1 .. 40
            drift 1 = 0
            count 6 = 1
            drift 6 = 0
            count 6 = 7
            drift 1 = 0
            count 6 = 8
            drift 1 = 0
            count 6 = 8
            drift 40 = 0
            count 6 = 8
            undo = 7
            """);
        Run.run("15: one alone sells to nobody", """
            text '......;p20' = 1
            drift 40 = 72
            of 0 2 = 20
            of 0 4 = 12
            count 6 = 8
            """);
        Run.run("15: n times", """
            drift 2 = 0
            seed 1 = 377401575
            drift 1 = 0
            seed 377401575 = 1103527590
            undo = 2
            seed 1 = 1
            drift 40 = 0
            seed 1 = 1775811865
            drift 39 = 0
            drift 1 = 0
            seed 1 = 1775811865
            """);
    }

    /** The seeds here are those from which the draw becomes the number that a line tells. */
    private static void driftSales() {
        Run.run("15: draw 1536: 0 sells to 1 the HALF 0 for the MIDDLE", """
            text '......;p50,p50-a' = 2
            seed 1476134019 = 1
            drift 1 = 138
            of 0 2 = 56
            of 1 2 = 44
            of 0 3 = 4094
            of 1 3 = 4095
            seed 1476134019 = 1536
            drift 1 = 138
            of 0 2 = 56
            count 6 = 2
            undo = 1
            seed 1476134019 = 1476134019
            undo = 0
            of 0 2 = 50
            of 0 3 = 4095
            of 1 3 = 4094
            undo = NONE
            """);
        Run.run("15: the other one has just so much CHALK", """
            text '......;p0,p6-a' = 2
            seed 1476134019 = 1
            drift 1 = 138
            of 0 2 = 6
            of 1 2 = 0
            of 0 3 = 4094
            """);
        Run.run("15: not so much: nothing is sold, yet it may be UNDONE", """
            text '......;p0,p5-a' = 2
            seed 1476134019 = 1
            drift 1 = 138
            of 0 2 = 0
            of 1 2 = 5
            of 0 3 = 4095
            count 6 = 1
            undo = 0
            seed 1 = 1476134019
            """);
        Run.run("15: the MIDDLE is cut: 3 less, nothing more", """
            text 'w.....;p0,p1' = 2
            seed 1476134019 = 1
            drift 1 = 129
            of 0 2 = 1
            of 1 2 = 0
            has 1 0 0 = 2
            """);
        Run.run("15: for nothing, if the MIDDLE is 0", """
            text '......;p0+a,p0' = 2
            seed 1476134019 = 1
            drift 1 = 144
            has 0 0 0 = 1
            has 1 0 0 = 2
            of 1 2 = 0
            """);
        Run.run("15: has it not", """
            text '......;p50-a,p50' = 2
            seed 1476134019 = 1
            drift 1 = 138
            has 1 0 0 = 1
            of 0 2 = 50
            count 6 = 1
            """);
        Run.run("15: no more than LEAST", """
            text '......;p50-cdefghijkl,p50-a' = 2
            seed 1476134019 = 1
            drift 1 = 78
            of 0 3 = 3
            of 0 2 = 50
            least 1 = 2
            seed 1476134019 = 1536
            drift 1 = 78
            of 0 3 = 2
            of 0 2 = 56
            """);
        Run.run("15: several of it, whatever LEAST is", """
            text '......;p9-bcdefghijkl+a,p9-a' = 2
            least 12 = 2
            seed 1476134019 = 1
            drift 1 = 78
            has 0 0 0 = 1
            has 1 0 0 = 1
            of 0 2 = 12
            seed 1476134019 = 1536
            drift 1 = 78
            has 0 0 0 = 1
            """);
    }

    private static void driftDraws() {
        Run.run("15: draw 0: 0 to itself", """
            text '......;p50,p50-a' = 2
            seed 2088216195 = 1
            drift 1 = 138
            of 0 3 = 4095
            seed 1 = 0
            count 6 = 1
            """);
        Run.run("15: draw 1023 is 0 by 1024, 1024 is 1 (and 8 by 128)", """
            text '......;p50,p50' = 2
            seed 1969966878 = 1
            drift 1 = 144
            of 0 3 = 4095
            seed 1680161411 = 1023
            drift 1 = 138
            of 0 3 = 3839
            """);
        Run.run("15: draw 1535 is 11 by 128, 1536 is 12, which leaves 0", """
            text '......;p50,p50' = 2
            seed 1765939486 = 1
            drift 1 = 138
            of 0 3 = 2047
            seed 1476134019 = 1535
            drift 1 = 132
            of 0 3 = 2046
            """);
        Run.run("15: draw 65535 is 0 by 65536 (63 by 1024, 511 by 128), 65536 is 1 (64, 512)", """
            text '......;p50,p50' = 2
            seed 2032319262 = 1
            drift 1 = 138
            of 0 3 = 3967
            seed 1742513795 = 65535
            drift 1 = 132
            of 1 3 = 3839
            """);
        Run.run("15: draw 2147483647, the greatest: 2 of five sells to 1 the HALF 3", """
            text '......;p50,p50-d,p50,p50,p50' = 5
            seed 230538014 = 1
            drift 1 = 354
            of 2 3 = 4087
            of 1 3 = 4095
            of 2 2 = 56
            seed 1 = 2147483647
            """);
        Run.run("15: of six the last sells to the one ahead of it the last HALF", """
            text '......;p50,p50,p50,p50,p50-l,p50' = 6
            seed 1567548931 = 1
            drift 1 = 426
            of 5 3 = 2047
            of 4 3 = 4095
            seed 1 = 1000278400
            """);
        Run.run("15: the lowest 31 bits", """
            seed 0 = 1
            drift 1 = 0
            seed 2147483647 = 12345
            drift 1 = 0
            seed 1 = 1043980748
            drift 1 = 0
            seed 1 = 1103527590
            """);
    }

    private static void undo() {
        Run.run("16: as ahead of it, whatever was told since", """
            text '......;p20,p30-c' = 2
            undo = NONE
            seed 9 = 1
            sell 0 1 2 7 = 27
            seed 1000 = 9
            love 0 1 = 0
            least 7 = 2
            undo = 0
            seed 1000 = 9
            of 0 2 = 20
            of 1 2 = 30
            of 0 3 = 4095
            of 1 3 = 4091
            of 0 1 = 1
            count 1 = 7
            undo = NONE
            seed 1 = 1000
            """);
        Run.run("16: SALE, SEIZED, GIVEN, SUNDAY made WET, DRY, HARVEST or not", """
            text 'w.....;p20,p30-c' = 2
            sell 0 1 2 7 = 27
            seize 1 0 = 2
            give 0 1 5 = 22
            make 1 0 1 = 3
            make 0 0 0 = 2
            make 5 1 1 = 32
            make 5 1 0 = 0
            count 6 = 7
            undo = 6
            count 3 = 32
            undo = 5
            count 3 = 0
            undo = 4
            count 2 = 3
            undo = 3
            count 2 = 1
            undo = 2
            of 0 2 = 27
            of 1 2 = 23
            has 0 2 0 = 1
            undo = 1
            has 0 2 0 = 0
            has 1 2 0 = 1
            undo = 0
            has 0 2 0 = 1
            has 1 2 0 = 0
            of 0 2 = 20
            undo = NONE
            """);
        Run.run("16: what is refused, foretold, told of love, LEAST, a seed is not to be UNDONE", """
            text '......;p20,p30-c' = 2
            make 0 0 1 = 1
            sell 1 0 2 0 = NOT
            give 0 1 21 = NOT
            make 0 0 1 = NOT
            love 0 1 = 0
            least 0 = 2
            seed 4 = 1
            best 0 = NONE
            market 0 = 0
            gain 0 1 2 = 1000
            image = 1
            sheet 0 0 4 = 4
            film 0 4 0 0 0 = 4
            count 6 = 1
            undo = 0
            at 0 0 = 0
            undo = NONE
            """);
    }

    private static void undoKnowsEight() {
        Run.run("16: 8 are known, older ones lost", """
            text '......;p50,p0' = 2
            give 0 1 1 = 49
            give 0 1 1 = 48
            give 0 1 1 = 47
            give 0 1 1 = 46
            give 0 1 1 = 45
            give 0 1 1 = 44
            give 0 1 1 = 43
            count 6 = 7
            give 0 1 1 = 42
            count 6 = 8
            give 0 1 1 = 41
            count 6 = 8
            undo = 7
            of 0 2 = 42
            undo = 6
            of 0 2 = 43
            undo = 5
            of 0 2 = 44
            undo = 4
            of 0 2 = 45
            undo = 3
            of 0 2 = 46
            undo = 2
            of 0 2 = 47
            undo = 1
            of 0 2 = 48
            undo = 0
            of 0 2 = 49
            undo = NONE
            of 0 2 = 49
            """);
        Run.run("16: eight just fit", """
            text '......;p50' = 1
            drift 4 = 72
            make 0 0 1 = 1
            make 1 0 1 = 3
            make 2 0 1 = 7
            make 3 0 1 = 15
            undo = 7
            undo = 6
            undo = 5
            undo = 4
            undo = 3
            undo = 2
            undo = 1
            undo = 0
            seed 1 = 1
            of 0 2 = 50
            undo = NONE
            """);
        Run.run("16: round and round: some undone, others done in their place", """
            text '......;p50,p0' = 2
            give 0 1 1 = 49
            give 0 1 1 = 48
            give 0 1 1 = 47
            give 0 1 1 = 46
            give 0 1 1 = 45
            give 0 1 1 = 44
            give 0 1 1 = 43
            give 0 1 1 = 42
            undo = 7
            undo = 6
            undo = 5
            give 0 1 10 = 35
            give 0 1 10 = 25
            give 0 1 10 = 15
            count 6 = 8
            give 0 1 10 = 5
            count 6 = 8
            undo = 7
            of 1 2 = 35
            undo = 6
            of 1 2 = 25
            undo = 5
            of 1 2 = 15
            undo = 4
            of 1 2 = 5
            undo = 3
            of 1 2 = 4
            undo = 2
            of 1 2 = 3
            undo = 1
            of 1 2 = 2
            undo = 0
            of 1 2 = 1
            undo = NONE
            """);
    }

    private static void undoLeavesNothing() {
        Run.run("16: a MARKET told leaves nothing to be UNDONE, a FAULT leaves all", """
            text '......;p50,p0' = 2
            make 0 0 1 = 1
            make 1 0 1 = 3
            text '......;p50,p0>2' = -35
            count 6 = 2
            text '......;p50,p0' = 2
            count 6 = 0
            undo = NONE
            """);
        Run.run("16: a new one of PEOPLE leaves nothing to be UNDONE, one that is refused leaves all", """
            text '......;p50,p0,p0,p0,p0' = 5
            make 0 0 1 = 1
            person 5 = BAD
            count 6 = 1
            person 0 = 5
            count 6 = 0
            undo = NONE
            make 1 0 1 = 3
            person 0 = FULL
            count 6 = 1
            undo = 0
            count 2 = 1
            """);
    }

    private static void seed() {
        Run.run("17: BAD: below 0", """
            edges seed # : 0 .. 2147483647
            seed -1 = BAD
            seed -2147483648 = BAD
            seed 0 = 1
            seed 2147483647 = 0
            seed 1 = 2147483647
            undo = NONE
            """);
    }
}
