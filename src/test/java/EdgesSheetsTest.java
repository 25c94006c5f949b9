/** The boundary cases of sheets and of what rows tell, and of promises 31 to 36. */
public final class EdgesSheetsTest {
    public static void main(String[] args) {
        toldNumbers();
        toldOrder();
        toldRows();
        toldLoves();
        film();
        filmRows();
        sheet();
        drop();
        item();
        itemLowestBits();
        copy();
        copyOrder();
        copySameOne();
        Due.end();
    }

    private static void toldNumbers() {
        Run.run("31: one, a SHEET 0 .. 3, a LANE 0 .. 3, n 1 .. 12, 0 or 1", """
            text '......;p9,p9' = 2
            sheet 0 0 12 = 12
            edges told # 0 0 0 1 0 : 0 .. 1
            edges told 0 # 0 0 1 0 : 0 .. 3
            edges told 0 0 # 0 1 0 : 0 .. 3
            edges told 0 0 0 0 # 0 : 1 .. 12
            edges told 0 0 0 0 # 1 : 1 .. 12
            edges told 0 0 0 0 1 # : 0 .. 1
            """);
        Run.run("31: from item i on", """
            text '......;p9' = 1
            sheet 3 3 24 = 24
            told 0 3 3 0 12 0 = 0
            told 0 3 3 12 12 0 = 0
            told 0 3 3 13 12 0 = INDEX
            told 0 3 3 23 1 0 = 16
            told 0 3 3 24 1 0 = INDEX
            told 0 3 3 -1 1 0 = INDEX
            told 0 3 3 -1 12 1 = INDEX
            told 0 3 3 2147483647 1 0 = INDEX
            told 0 3 3 2147483640 12 0 = INDEX
            told 0 3 3 -2147483648 12 0 = INDEX
            sheet 3 3 1 = 1
            told 0 3 3 0 1 0 = 16
            told 0 3 3 0 2 0 = INDEX
            sheet 3 3 0 = 0
            told 0 3 3 0 1 0 = INDEX
            """);
    }

    private static void toldOrder() {
        Run.run("31: BAD, NULL, CAST, INDEX in this order", """
            text '......;p9' = 1
            sheet 0 1 5 = 5
            told 0 0 1 5 1 0 = INDEX
            told 0 0 2 5 1 0 = CAST
            told 0 1 2 5 1 0 = NULL
            told 0 1 4 5 1 0 = BAD
            told 0 4 2 5 1 0 = BAD
            told 1 1 2 5 1 0 = BAD
            told 0 1 2 5 0 0 = BAD
            told 0 1 2 5 13 0 = BAD
            told 0 1 2 5 1 2 = BAD
            told 0 0 2 5 13 0 = BAD
            told 0 0 1 5 13 0 = BAD
            told 0 0 1 -1 1 -1 = BAD
            """);
    }

    private static void toldRows() {
        Run.run("31: KINDS, none to all", """
            text '......;p9-ab' = 1
            sheet 0 2 3 = 3
            told 0 0 2 0 1 0 = 31
            told 0 0 2 0 2 0 = 31
            told 0 0 2 0 3 0 = 16
            item 0 2 2 6 = 1
            told 0 0 2 0 3 0 = 11
            item 0 2 2 10 = 1
            told 0 0 2 0 3 0 = 4
            item 0 2 2 7 = 1
            told 0 0 2 0 3 0 = 0
            item 0 2 1 6 = 1
            told 0 0 2 0 1 0 = 31
            told 0 0 2 0 2 0 = 0
            """);
        Run.run("31: the last item tells, too; the one behind it does not", """
            text '......;p9' = 1
            sheet 0 0 13 = 13
            film 0 12 0 0 0 = 12
            told 0 0 0 0 12 0 = 11
            item 0 0 12 1 = 1
            told 0 0 0 0 12 0 = 11
            item 0 0 11 1 = 1
            told 0 0 0 0 12 0 = 0
            told 0 0 0 0 11 0 = 11
            """);
        Run.run("31: a number like it in its lowest bits alone is another one", """
            text '......;p9' = 1
            sheet 0 1 1 = 1
            item 0 1 0 262 = 1
            told 0 0 1 0 1 0 = 0
            sheet 0 2 1 = 1
            item 0 2 0 65542 = 1
            told 0 0 2 0 1 0 = 0
            sheet 0 3 1 = 1
            item 0 3 0 4294967302 = 1
            told 0 0 3 0 1 0 = 0
            item 0 3 0 6 = 1
            told 0 0 3 0 1 0 = 11
            """);
    }

    private static void toldLoves() {
        Run.run("31: whom a LOVER might LOVE: itself, another one, none, all", """
            text '......;l9-l,p9-ab,p9-b,p9-a,p9,p9' = 6
            sheet 0 2 12 = 12
            item 0 2 0 6 = 1
            item 0 2 1 6 = 1
            told 0 0 2 0 1 1 = 11
            told 0 0 2 0 2 1 = 3
            item 0 2 0 11 = 1
            told 0 0 2 0 1 1 = 52
            told 0 0 2 0 2 1 = 4
            item 0 2 1 11 = 1
            told 0 0 2 0 2 1 = 48
            item 0 2 0 10 = 1
            told 0 0 2 0 2 1 = 0
            told 0 0 2 11 1 1 = 0
            text '......;l9-a,p9,p9' = 3
            told 0 0 2 11 1 1 = 7
            """);
        Run.run("31: who is no LOVER might LOVE all, or none as the row is", """
            text '......;f9>1,p9-a' = 2
            sheet 0 2 1 = 1
            told 0 0 2 0 1 1 = 0
            item 0 2 0 6 = 1
            told 0 0 2 0 1 1 = 3
            """);
        Run.run("31: by KINDS it LOVES whom it LOVES, by LOVE it is of its KIND", """
            text '......;p9>1,p9-b' = 2
            sheet 0 2 2 = 2
            item 0 2 0 11 = 1
            item 0 2 1 6 = 1
            told 0 0 2 0 2 0 = 8
            told 0 0 2 0 2 1 = 0
            love 0 0 = 1
            told 0 0 2 0 2 0 = 0
            """);
    }

    private static void film() {
        Run.run("32: one, n 1 .. 12, a SHEET 0 .. 3, a LANE 0 .. 3", """
            text '......;p9,p9' = 2
            sheet 0 0 12 = 12
            edges film # 1 0 0 0 : 0 .. 1
            edges film 0 # 0 0 0 : 1 .. 12
            edges film 0 1 # 0 0 : 0 .. 3
            edges film 0 1 0 # 0 : 0 .. 3
            """);
        Run.run("32: BAD, NULL, CAST, INDEX in this order", """
            text '......;p9' = 1
            sheet 0 1 5 = 5
            film 0 1 0 1 5 = INDEX
            film 0 1 0 2 5 = CAST
            film 0 1 1 2 5 = NULL
            film 0 1 1 4 5 = BAD
            film 0 1 4 2 5 = BAD
            film 1 1 1 2 5 = BAD
            film 0 0 1 2 5 = BAD
            film 0 13 1 2 5 = BAD
            film 0 13 0 2 5 = BAD
            film 0 13 0 1 5 = BAD
            """);
    }

    private static void filmRows() {
        Run.run("32: from item i on; what is refused writes nothing", """
            text '......;p9' = 1
            sheet 2 0 14 = 14
            film 0 12 2 0 3 = INDEX
            film 0 12 2 0 -1 = INDEX
            film 0 12 2 0 2147483647 = INDEX
            film 0 12 2 0 -2147483648 = INDEX
            film 0 1 2 0 14 = INDEX
            told 0 2 0 13 1 0 = 16
            film 0 12 2 0 2 = 12
            told 0 2 0 1 1 0 = 16
            told 0 2 0 2 12 0 = 11
            sheet 2 0 14 = 14
            film 0 12 2 0 0 = 12
            told 0 2 0 0 12 0 = 11
            told 0 2 0 12 1 0 = 16
            film 0 1 2 0 13 = 1
            told 0 2 0 12 1 0 = 16
            told 0 2 0 13 1 0 = 11
            sheet 2 0 0 = 0
            film 0 1 2 0 0 = INDEX
            """);
        Run.run("32: HALVES 0 to n less 1, and no more", """
            text '......;p9' = 1
            sheet 2 1 14 = 14
            film 0 1 2 1 0 = 1
            told 0 2 1 0 1 0 = 11
            told 0 2 1 1 1 0 = 16
            film 0 11 2 1 2 = 11
            told 0 2 1 1 1 0 = 16
            told 0 2 1 2 11 0 = 11
            told 0 2 1 13 1 0 = 16
            """);
        Run.run("32: a HALF that it has not is 0, in place of what was there", """
            text 'h.....;l9>1-b,p9' = 2
            sheet 0 3 3 = 3
            item 0 3 0 -1 = 1
            item 0 3 1 -1 = 1
            item 0 3 2 -1 = 1
            film 0 2 0 3 0 = 2
            told 0 0 3 0 2 0 = 8
            told 0 0 3 0 2 1 = 2
            told 0 0 3 1 1 0 = 16
            text '......;p9-a' = 1
            told 0 0 3 1 1 0 = 31
            told 0 0 3 2 1 0 = 0
            """);
        Run.run("32: the dearest HALF in each LANE", """
            text 'h.....;l9>1,p9' = 2
            sheet 0 0 1 = 1
            sheet 1 1 1 = 1
            sheet 2 2 1 = 1
            sheet 3 3 1 = 1
            film 0 1 0 0 0 = 1
            film 0 1 1 1 0 = 1
            film 0 1 2 2 0 = 1
            film 0 1 3 3 0 = 1
            has 0 0 1 = 20
            told 0 0 0 0 1 1 = 2
            told 0 1 1 0 1 1 = 2
            told 0 2 2 0 1 1 = 2
            told 0 3 3 0 1 1 = 2
            """);
    }

    private static void sheet() {
        Run.run("33: a SHEET 0 .. 3, a LANE 0 .. 3, 0 to 24 items", """
            edges sheet # 0 1 : 0 .. 3
            edges sheet 0 # 1 : 0 .. 3
            sheet 0 0 25 = BAD
            sheet 0 0 2147483647 = BAD
            sheet 0 0 -1 = SIZE
            sheet 0 0 -2147483648 = SIZE
            sheet 4 0 -1 = BAD
            sheet -1 0 -1 = BAD
            sheet 0 4 -1 = BAD
            sheet 0 -1 -1 = BAD
            sheet 4 0 25 = BAD
            drop 0 = NULL
            sheet 0 0 24 = 24
            item 0 0 23 6 = 1
            item 0 0 24 6 = INDEX
            sheet 0 0 25 = BAD
            sheet 0 3 -1 = SIZE
            sheet 0 0 0 = 0
            item 0 0 0 6 = INDEX
            sheet 3 3 24 = 24
            item 3 3 23 6 = 1
            """);
        Run.run("33: a new row is 0, shorter, longer, of another LANE", """
            text '......;p9' = 1
            sheet 1 1 3 = 3
            item 1 1 2 6 = 1
            sheet 1 1 3 = 3
            told 0 1 1 2 1 0 = 16
            item 1 1 2 6 = 1
            sheet 1 1 2 = 2
            told 0 1 1 2 1 0 = INDEX
            sheet 1 1 4 = 4
            told 0 1 1 2 1 0 = 16
            item 1 1 2 6 = 1
            sheet 1 2 4 = 4
            told 0 1 1 2 1 0 = CAST
            told 0 1 2 2 1 0 = 16
            """);
        Run.run("33: the other SHEETS stay", """
            text '......;p9' = 1
            sheet 0 2 2 = 2
            sheet 1 2 2 = 2
            item 0 2 1 6 = 1
            sheet 1 2 2 = 2
            told 0 0 2 1 1 0 = 11
            told 0 1 2 1 1 0 = 16
            sheet 2 2 -1 = SIZE
            drop 2 = NULL
            drop 3 = NULL
            """);
    }

    private static void drop() {
        Run.run("34: a SHEET 0 .. 3; NULL", """
            edges drop # : 0 .. 3
            drop 0 = NULL
            drop 3 = NULL
            drop 4 = BAD
            drop -1 = BAD
            sheet 0 0 0 = 0
            sheet 3 3 24 = 24
            sheet 2 3 1 = 1
            edges drop # : 0 .. 3
            drop 0 = 0
            drop 0 = NULL
            drop 3 = 24
            drop 3 = NULL
            item 3 3 0 1 = NULL
            drop 2 = 1
            """);
        Run.run("34: what was there does not come again", """
            text '......;p9' = 1
            sheet 0 2 2 = 2
            item 0 2 0 6 = 1
            drop 0 = 2
            sheet 0 2 2 = 2
            told 0 0 2 0 1 0 = 16
            """);
    }

    private static void item() {
        Run.run("35: BAD, NULL, CAST, INDEX in this order", """
            sheet 0 1 5 = 5
            sheet 3 0 0 = 0
            edges item # 1 0 6 : 0 .. 3
            edges item 0 # 0 6 : 0 .. 3
            item 0 1 0 6 = 1
            item 0 1 4 6 = 1
            item 0 1 5 6 = INDEX
            item 0 1 -1 6 = INDEX
            item 0 1 2147483647 6 = INDEX
            item 0 1 -2147483648 6 = INDEX
            item 3 0 0 6 = INDEX
            item 0 2 5 6 = CAST
            item 0 2 0 6 = CAST
            item 0 0 0 6 = CAST
            item 1 1 5 6 = NULL
            item 1 1 0 6 = NULL
            item 1 4 5 6 = BAD
            item 4 1 5 6 = BAD
            item 0 4 5 6 = BAD
            """);
    }

    /** A half that is lacked is 0, one that is had is 6: an item is cut to either, or to something else. */
    private static void itemLowestBits() {
        Run.run("35: the lowest 8 bits", """
            text '......;p9' = 1
            sheet 0 0 1 = 1
            item 0 0 0 256 = 1
            told 0 0 0 0 1 0 = 16
            item 0 0 0 262 = 1
            told 0 0 0 0 1 0 = 11
            item 0 0 0 -250 = 1
            told 0 0 0 0 1 0 = 11
            item 0 0 0 128 = 1
            told 0 0 0 0 1 0 = 0
            item 0 0 0 -256 = 1
            told 0 0 0 0 1 0 = 16
            item 0 0 0 -9223372036854775808 = 1
            told 0 0 0 0 1 0 = 16
            item 0 0 0 9223372036854775807 = 1
            told 0 0 0 0 1 0 = 0
            """);
        Run.run("35: the lowest 16 bits", """
            text '......;p9' = 1
            sheet 0 1 1 = 1
            item 0 1 0 256 = 1
            told 0 0 1 0 1 0 = 0
            item 0 1 0 65536 = 1
            told 0 0 1 0 1 0 = 16
            item 0 1 0 65542 = 1
            told 0 0 1 0 1 0 = 11
            item 0 1 0 -65530 = 1
            told 0 0 1 0 1 0 = 11
            item 0 1 0 32768 = 1
            told 0 0 1 0 1 0 = 0
            item 0 1 0 -9223372036854775808 = 1
            told 0 0 1 0 1 0 = 16
            """);
        Run.run("35: the lowest 32 bits", """
            text '......;p9' = 1
            sheet 0 2 1 = 1
            item 0 2 0 65536 = 1
            told 0 0 2 0 1 0 = 0
            item 0 2 0 4294967296 = 1
            told 0 0 2 0 1 0 = 16
            item 0 2 0 4294967302 = 1
            told 0 0 2 0 1 0 = 11
            item 0 2 0 -4294967290 = 1
            told 0 0 2 0 1 0 = 11
            item 0 2 0 2147483648 = 1
            told 0 0 2 0 1 0 = 0
            """);
        Run.run("35: all 64 bits", """
            text '......;p9' = 1
            sheet 0 3 1 = 1
            item 0 3 0 4294967296 = 1
            told 0 0 3 0 1 0 = 0
            item 0 3 0 -9223372036854775802 = 1
            told 0 0 3 0 1 0 = 0
            item 0 3 0 6 = 1
            told 0 0 3 0 1 0 = 11
            item 0 3 0 0 = 1
            told 0 0 3 0 1 0 = 16
            """);
    }

    private static void copy() {
        Run.run("36: a SHEET 0 .. 3, another one (or the same)", """
            sheet 0 1 5 = 5
            sheet 1 1 5 = 5
            sheet 2 1 5 = 5
            sheet 3 1 5 = 5
            edges copy # 0 1 0 1 : 0 .. 3
            edges copy 1 0 # 0 1 : 0 .. 3
            """);
        Run.run("36: from i on, from j on, n", """
            sheet 0 1 5 = 5
            sheet 1 1 4 = 4
            item 0 1 0 6 = 1
            item 0 1 4 10 = 1
            copy 0 0 1 0 5 = INDEX
            copy 1 0 0 0 5 = INDEX
            copy 1 0 0 2 4 = INDEX
            copy 0 2 1 0 4 = INDEX
            copy 0 -1 1 0 1 = INDEX
            copy 0 0 1 -1 1 = INDEX
            copy 0 0 1 0 -1 = INDEX
            copy 0 5 1 0 1 = INDEX
            copy 0 0 1 4 1 = INDEX
            copy 0 5 1 4 0 = 0
            copy 0 6 1 4 0 = INDEX
            copy 0 5 1 5 0 = INDEX
            copy 0 2147483647 1 0 1 = INDEX
            copy 0 0 1 2147483647 1 = INDEX
            copy 0 1 1 1 2147483647 = INDEX
            copy 0 0 1 0 -2147483648 = INDEX
            copy 0 -2147483648 1 0 0 = INDEX
            copy 0 4 1 3 1 = 1
            copy 0 0 1 0 3 = 3
            person 0 = 0
            told 0 1 1 0 1 0 = 11
            told 0 1 1 1 1 0 = 16
            told 0 1 1 3 1 0 = 4
            copy 0 1 1 0 4 = 4
            told 0 1 1 0 1 0 = 16
            told 0 1 1 3 1 0 = 4
            """);
        Run.run("36: an empty row", """
            sheet 0 1 0 = 0
            sheet 1 1 2 = 2
            copy 0 0 1 0 0 = 0
            copy 0 0 0 0 0 = 0
            copy 0 0 1 2 0 = 0
            copy 0 0 1 3 0 = INDEX
            copy 0 0 1 0 1 = INDEX
            copy 1 0 0 0 1 = INDEX
            """);
    }

    private static void copyOrder() {
        Run.run("36: BAD, NULL (either), CAST, INDEX in this order", """
            sheet 0 1 5 = 5
            sheet 1 2 5 = 5
            copy 0 5 0 0 1 = INDEX
            copy 0 5 1 0 1 = CAST
            copy 0 0 1 5 1 = CAST
            copy 0 0 1 0 -1 = CAST
            copy 0 0 1 0 0 = CAST
            copy 1 0 0 0 1 = CAST
            copy 0 5 2 0 1 = NULL
            copy 2 5 0 0 1 = NULL
            copy 2 0 3 0 0 = NULL
            copy 2 0 2 0 0 = NULL
            copy 2 0 2 0 -1 = NULL
            copy 2 5 4 0 1 = BAD
            copy 4 5 2 0 1 = BAD
            copy -1 0 2 0 1 = BAD
            copy 2 0 -1 0 -1 = BAD
            """);
        Run.run("36: what comes to another one is its own then", """
            text '......;p9' = 1
            sheet 0 3 2 = 2
            sheet 1 3 2 = 2
            item 0 3 0 6 = 1
            copy 0 0 1 0 2 = 2
            item 0 3 0 10 = 1
            told 0 1 3 0 1 0 = 11
            drop 0 = 2
            told 0 1 3 0 1 0 = 11
            """);
    }

    private static void copySameOne() {
        String sixTenZero = """
            text '......;p9' = 1
            sheet 0 2 4 = 4
            item 0 2 0 6 = 1
            item 0 2 1 10 = 1
            """;
        Run.run("36: as if all were taken ahead: up by one", sixTenZero + """
            copy 0 0 0 1 3 = 3
            told 0 0 2 0 1 0 = 11
            told 0 0 2 1 1 0 = 11
            told 0 0 2 2 1 0 = 4
            told 0 0 2 3 1 0 = 16
            """);
        Run.run("36: as if all were taken ahead: down by one", sixTenZero + """
            copy 0 1 0 0 3 = 3
            told 0 0 2 0 1 0 = 4
            told 0 0 2 1 1 0 = 16
            told 0 0 2 2 1 0 = 16
            told 0 0 2 3 1 0 = 16
            """);
        Run.run("36: to where they are", sixTenZero + """
            copy 0 0 0 0 4 = 4
            copy 0 0 0 0 5 = INDEX
            copy 0 1 0 1 4 = INDEX
            told 0 0 2 0 1 0 = 11
            told 0 0 2 1 1 0 = 4
            told 0 0 2 2 1 0 = 16
            """);
    }
}
