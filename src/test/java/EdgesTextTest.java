/** The boundary cases of a market's text and its faults (promise 9). */
public final class EdgesTextTest {
    private static final String DIGITS = "0123456789";
    private static final String HALVES = "abcdefghijkl";
    private static final String SIX = "......;p9,p9,p9,p9,p9,p9";

    public static void main(String[] args) {
        signsAndKinds();
        numbers();
        loves();
        halves();
        howManyPeople();
        ends();
        blanks();
        nobodyNamed();
        effects();
        olderTapes();
        Due.end();
    }

    /** Behind a beginning, just these letters (and a blank) can stand; each other one is a fault at its place. */
    private static void stand(String start, String letters) {
        for (char letter = 32; letter <= 126; letter++) {
            int got = Due.tell(new SundayMarket(), start + letter);
            String call = "9: read of '" + start + letter + "'";
            if (letter == ' ' || letters.indexOf(letter) >= 0) {
                Due.due(call + " has its fault there", got == -20 - start.length() ? 1 : 0, 0);
            } else {
                Due.due(call, got, -20 - start.length());
            }
        }
    }

    private static void read(String text, int want) {
        Run.run("9", "text '" + text + "' = " + want);
    }

    private static void signsAndKinds() {
        stand("", ".whb");
        stand(".", ".whb");
        stand(".....", ".whb");
        stand("whb.wh", ";");
        stand("......", ";");
        stand("......;", "pfolr");
        stand("......;p9,", "pfolr");
        for (char kind : "pfolr".toCharArray()) {
            stand("......;" + kind, DIGITS);
        }
    }

    private static void numbers() {
        stand("......;p ", DIGITS);
        stand("......;p0", DIGITS + ">-+,");
        stand("......;p9", DIGITS + ">-+,");
        stand("......;p00", ">-+,");
        stand("......;p99", ">-+,");
        stand("......;p9 ", ">-+,");
        stand("......;p99 ", ">-+,");
        read("......;p0", 1);
        read("......;p00", 1);
        read("......;p99", 1);
        read("......;p100", -30);
        read("......;p000", -30);
        read("......;p-1", -28);
        read("......;p+1", -28);
    }

    private static void loves() {
        stand("......;p9>", "012345");
        stand("......;p9> ", "012345");
        stand("......;p9>0", "-+,");
        stand("......;p9>5", "-+,");
        stand("......;p9>0 ", "-+,");
        stand("......;p9,p9>1", "-+,");
        read("......;p9>6", -30);
        read("......;p9>9", -30);
        read("......;p9,p9,p9,p9,p9,p9>5", 6);
        read("......;p9,p9,p9,p9,p9,p9>6", -45);
    }

    private static void halves() {
        stand("......;p9-", HALVES);
        stand("......;p9>0-", HALVES);
        stand("......;p9- ", HALVES);
        stand("......;p9+", HALVES);
        stand("......;p9-a+", HALVES);
        for (int half = 0; half < 12; half++) {
            String above = HALVES.substring(half + 1);
            stand("......;p9-" + HALVES.charAt(half), above + "+,");
            stand("......;p9+" + HALVES.charAt(half), above + ",");
            stand("......;p9-l+" + HALVES.charAt(half), above + ",");
        }
        stand("......;p9-a ", HALVES.substring(1) + "+,");
        stand("......;p9+a ", HALVES.substring(1) + ",");
        stand("......;p9-" + HALVES, "+,");
        stand("......;p9-" + HALVES + "+" + HALVES, ",");
    }

    private static void howManyPeople() {
        stand("......;p9,p9,p9,p9,p9", DIGITS + ">-+,");
        stand(SIX, DIGITS + ">-+");
        stand(SIX + "9", ">-+");
        stand(SIX + " ", ">-+");
        stand(SIX + ">5", "-+");
        stand(SIX + "-l", "+");
        stand(SIX + "+l", "");
        read("......;", -27);
        read("......;p9", 1);
        read("......;p9,p9,p9,p9,p9", 5);
        read(SIX, 6);
        read(SIX + ",", -44);
        read(SIX + ",p9", -44);
    }

    private static void ends() {
        String whole = "whb...;l12>1-ab+cd,p9-l+l";
        int[] well = {9, 10, 12, 14, 15, 17, 18, 21, 23, 25};
        for (int n = 0; n <= whole.length(); n++) {
            String text = whole.substring(0, n);
            boolean isWhole = false;
            for (int end : well) {
                isWhole |= n == end;
            }
            // Until the second one is there, the first one's love names nobody.
            boolean isWell = isWhole && (n < 12 || n >= 21);
            int want = isWell ? (n >= 21 ? 2 : 1) : -20 - n;
            read(text, want);
            read(text + "  ", isWell ? want : want - 2);
        }
    }

    private static void blanks() {
        read(" ", -21);
        read(" x", -21);
        read("x ", -20);
        read("...  ...;p9", 1);
        read("......;p1 2", -30);
        read("......;p1   2", -32);
        read("......;p12 3", -31);
        read("......;p 12", 1);
        read("......;p 1 >  0 - a  b +  c  d , p 9 ", 2);
        read("......;p9>0 1", -32);
        read("......;p9-b   a", -34);
        read("......;p9-  ", -32);
        Run.run("9: blanks end a number", """
            text '......;p1 ' = 1
            of 0 2 = 1
            text '......;p 1,p2' = 2
            of 0 2 = 1
            text '......;p 12 ' = 1
            of 0 2 = 12
            text '......;p1 2' = -30
            of 0 2 = 12
            """);
    }

    private static void nobodyNamed() {
        read("......;p9>0", 1);
        read("......;p9>1", -31);
        read("......;p9>1 ", -32);
        read("......;p9>1,p9", 2);
        read("......;p9>2,p9", -34);
        read("......;p9,p9>1", 2);
        read("......;p9,p9>2", -34);
        read("......;p9>5,p9,p9,p9,p9", -43);
        read("......;p9>5,p9,p9,p9,p9,p9", 6);
        read("......;p9>5,p9>5-a+a", -40);
        read("......;p9>5,x", -32);
        read("......;p9>5,p9>6", -35);
        read("......;p9>5,", -32);
        read("......;p9>5;", -31);
    }

    private static void effects() {
        Run.run("9: . (DRY), w (WET), h (HARVEST), b (both)", """
            text 'w....b;p9' = 1
            count 2 = 33
            count 3 = 32
            text '......;p9' = 1
            count 2 = 0
            count 3 = 0
            text 'hhhhhh;p9' = 1
            count 2 = 0
            count 3 = 63
            text 'wwwwww;p9' = 1
            count 2 = 63
            count 3 = 0
            text 'bbbbbb;p9' = 1
            count 2 = 63
            count 3 = 63
            """);
        Run.run("9: p f o l r, CHALK 0 .. 99", """
            text '......;p0,f00,o9,l09,r99,p10' = 6
            of 0 0 = 0
            of 1 0 = 1
            of 2 0 = 2
            of 3 0 = 3
            of 4 0 = 4
            of 5 0 = 0
            of 0 2 = 0
            of 1 2 = 0
            of 2 2 = 9
            of 3 2 = 9
            of 4 2 = 99
            of 5 2 = 10
            count 5 = 127
            """);
        Run.run("9: LOVES whoever is told later, too; else itself", """
            text '......;l9>5,l9>0,l9>2,l9,l9,l9' = 6
            of 0 1 = 5
            of 1 1 = 0
            of 2 1 = 2
            of 3 1 = 3
            of 5 1 = 5
            of 0 5 = 132
            of 2 5 = 72
            of 5 5 = 72
            """);
        Run.run("9: one less of each: none; one more of each", """
            text '......;p9-a,p9+a,p9-a+a,p9-l+l,p9-al+k' = 5
            has 0 0 0 = 0
            has 0 1 0 = 1
            has 1 0 0 = 2
            has 1 11 0 = 1
            has 2 0 0 = 1
            has 3 11 0 = 1
            has 4 0 0 = 0
            has 4 10 0 = 2
            has 4 11 0 = 0
            of 4 4 = 11
            text '......;p9-abcdefghijkl+abcdefghijkl,p9-abcdefghijkl,p9+abcdefghijkl' = 3
            of 0 4 = 12
            of 1 4 = 0
            of 2 4 = 24
            """);
    }

    private static void olderTapes() {
        Run.run("9: THE TAPE is empty then: what a longer one told is gone", """
            text '......;p99,p9' = 2
            text '......;p1' = 1
            of 0 2 = 1
            text '......;p9-ab+cd,p9' = 2
            text '......;p9-a' = 1
            of 0 3 = 4094
            text '......;p9,p9>1' = 2
            text '......;p9,' = -30
            text '......;p' = -28
            text '......' = -26
            """);
        Run.run("9: a number at the very end of a full tape", "text '" + " ".repeat(91) + "......;p9' = 1\n" + """
            of 0 2 = 9
            """);
        Run.run("9: two digits at the very end of a full tape", "text '" + " ".repeat(90) + "......;p98' = 1\n" + """
            of 0 2 = 98
            """);
    }
}
