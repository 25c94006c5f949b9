/** Promises 18 to 30: what is foretold, and images. */
public final class ForetoldTest {
    private static final String FIVE = ".wh.bw;p30>1,f8-bd,o60-acdf+l,l5>2-g+hi,r44-ek";

    public static void main(String[] args) {
        gain();
        middle();
        best();
        market();
        longest();
        stretch();
        more();
        envy();
        both();
        hands();
        rain();
        image();
        latestImage();
        nothingIsChanged();
        Due.end();
    }

    private static void wrongSales(SundayMarket x) {
        int[][] wrong = {{0, 0, 0}, {-1, 0, 0}, {0, -1, 0}, {5, 0, 0}, {0, 5, 0}, {0, 1, -1}, {0, 1, 12}};
        for (int[] w : wrong) {
            Due.due("18: wrong", x.gain(w[0], w[1], w[2]), SundayMarket.BAD);
            Due.due("19: wrong", x.middle(w[0], w[1], w[2]), SundayMarket.BAD);
        }
    }

    private static void gain() {
        SundayMarket x = Due.market(FIVE);
        wrongSales(x);
        Due.due("18: has it not", x.gain(1, 0, 1), SundayMarket.NOT);
        Due.due("18: to one who lacks it", x.gain(0, 1, 1), 1000);
        Due.due("18: to one who has it", x.gain(0, 1, 0), 994);
        Due.due("18: both halves, and love that the lover feels", x.gain(4, 2, 0), 1015);
        SundayMarket y = Due.market("......;p9,p9-a,l9>0,l9>1");
        Due.due("18: love of others counts both ways", y.gain(0, 1, 0), 1000);
        y.love(2, 2);
        Due.due("18: one lover more", y.gain(0, 1, 0), 1005);
        y.least(12);
        Due.due("18: whatever least is", y.gain(0, 1, 0), 1005);
    }

    private static void middle() {
        SundayMarket x = Due.market("w.....;o9,p9-ac,l9>1,l9>0+ad,r9-b");
        Due.due("19: has it not", x.middle(1, 0, 0), SundayMarket.NOT);
        Due.due("19: 11 lost by a whole one, 3 won", x.middle(0, 1, 0), 7);
        Due.due("19: 14 lost, 6 won", x.middle(0, 1, 2), 10);
        Due.due("19: 14 lost, nothing won", x.middle(0, 1, 3), 7);
        Due.due("19: 11 lost, 5 less won by who loves the seller", x.middle(0, 3, 1), 3);
        Due.due("19: a ringer's morning is worth nothing", x.middle(4, 2, 0), 0);
        Due.due("19: nothing lost of several, nothing won", x.middle(3, 4, 0), 0);
        SundayMarket y = Due.market("......;l9>1+a,r9-ab,l9>1");
        Due.due("19: 5 won by who sells, nothing by who buys: 0 at least", y.middle(0, 1, 0), 0);
        Due.due("19: 6 lost, nothing won", y.middle(2, 1, 0), 3);
        Due.due("19: 3 lost, 4 won, cut", Due.market("w.....;p9,r9-a").middle(0, 1, 0), 3);
        x.least(12);
        Due.due("19: whatever least is", x.middle(0, 1, 0), 7);
    }

    private static void best() {
        SundayMarket x = Due.market(FIVE);
        Due.due("20: what 2", x.best(2), SundayMarket.BAD);
        Due.due("20: what -1", x.best(-1), SundayMarket.BAD);
        Due.due("20: the sale", x.best(0), 4200);
        Due.due("20: its gain", x.best(1), 15);
        SundayMarket y = Due.market("......;r9,r9,p9-ac,p9-ac");
        Due.due("20: the first of like ones", y.best(0), 200);
        Due.due("20: gains", y.best(1), 2);
        y.least(12);
        Due.due("20: none may be", y.best(0), SundayMarket.NONE);
        Due.due("20: none may be", y.best(1), SundayMarket.NONE);
        SundayMarket z = Due.market("......;p9,p0-a,p0-a+l,f9-j,p0");
        Due.due("20: what gains nothing is none", z.best(0), SundayMarket.NONE);
        z.make(4, 1, 1);
        Due.due("20: for nothing, so chalk is of no matter", z.best(0), 309);
        Due.due("20: gains", z.best(1), 9);
        Due.due("20: several may be sold whatever least is", Due.market("......;p9-b+a,p9-a").best(0), 100);
        SundayMarket w = new SundayMarket();
        Due.due("20: nobody", w.best(0), SundayMarket.NONE);
    }

    private static void market() {
        SundayMarket x = Due.market(FIVE);
        Due.due("21: what 2", x.market(2), SundayMarket.BAD);
        Due.due("21: what -1", x.market(-1), SundayMarket.BAD);
        int sales = x.market(0);
        int worth = x.market(1);
        Due.due("21: sales", sales, 6);
        Due.due("21: worth", worth, 411);
        for (int i = 0; i < sales; i++) {
            int sale = x.best(0);
            Due.due("21: one by one", x.market(0), sales - i);
            x.sell(sale / 1000, sale / 100 % 10, sale % 100, 0);
        }
        Due.due("21: none is left", x.best(0), SundayMarket.NONE);
        Due.due("21: no sales", x.market(0), 0);
        Due.due("21: the worth they come to", x.count(4), worth);
        Due.due("21: stays", x.market(1), worth);
        SundayMarket y = Due.market("......;p9-l+abcdefghijk,p9-abcdefghijkl");
        Due.due("21: eleven sales", y.market(0), 11);
        y.least(12);
        Due.due("21: several are sold whatever least is", y.market(0), 11);
        SundayMarket z = Due.market("hhhhhh;p9,f9-abcdefghijkl");
        Due.due("21: least holds in the middle of it", z.market(0), 10);
        z.least(0);
        Due.due("21: all", z.market(0), 12);
    }

    private static void longest() {
        SundayMarket x = Due.market("......;p9-ae,p9-abcdefghijkl,p9-bdfhjl,p9,p9-abcdefghijk,p9-d+f");
        int[] most = {7, 0, 1, 12, 1, 8};
        int[] first = {5, SundayMarket.NONE, 0, 0, 11, 4};
        for (int one = 0; one < 6; one++) {
            Due.due("22: how many", x.longest(one, 0), most[one]);
            Due.due("22: the first", x.longest(one, 1), first[one]);
        }
        SundayMarket y = Due.market("......;p9-dh");
        Due.due("22: of like ones the first", y.longest(0, 1), 8);
        Due.due("22: of like ones the first", Due.market("......;p9-dhl").longest(0, 1), 0);
        Due.due("22: nobody", x.longest(6, 0), SundayMarket.BAD);
        Due.due("22: nobody", x.longest(-1, 0), SundayMarket.BAD);
        Due.due("22: what", x.longest(0, 2), SundayMarket.BAD);
        Due.due("22: what", x.longest(0, -1), SundayMarket.BAD);
    }

    private static void stretch() {
        SundayMarket x = Due.market("......;p9-aei,p9-abcdefghijkl,p9");
        int[] fewest = {0, 0, 0, 1, 1, 1, 1, 2, 2, 2, 2, 3};
        int[] first = {1, 1, 1, 0, 1, 1, 1, 0, 1, 1, 1, 0};
        for (int n = 1; n <= 12; n++) {
            Due.due("23: how many for " + n, x.stretch(0, n, 0), fewest[n - 1]);
            Due.due("23: the first for " + n, x.stretch(0, n, 1), first[n - 1]);
            Due.due("23: who has none", x.stretch(1, n, 0), n);
            Due.due("23: who has none", x.stretch(1, n, 1), 0);
            Due.due("23: who has all", x.stretch(2, n, 0), 0);
            Due.due("23: who has all", x.stretch(2, n, 1), 0);
        }
        SundayMarket y = Due.market("......;p9-abdhj");
        Due.due("23: the last place", Due.market("......;p9-abcdefi").stretch(0, 3, 1), 9);
        Due.due("23: fewest", y.stretch(0, 5, 0), 1);
        Due.due("23: first", y.stretch(0, 5, 1), 2);
        Due.due("23: nobody", x.stretch(3, 1, 0), SundayMarket.BAD);
        Due.due("23: nobody", x.stretch(-1, 1, 0), SundayMarket.BAD);
        Due.due("23: n 0", x.stretch(0, 0, 0), SundayMarket.BAD);
        Due.due("23: n 13", x.stretch(0, 13, 0), SundayMarket.BAD);
        Due.due("23: what", x.stretch(0, 1, 2), SundayMarket.BAD);
        Due.due("23: what", x.stretch(0, 1, -1), SundayMarket.BAD);
    }

    private static void more() {
        SundayMarket x = Due.market("......;o9-bcdef,l9>0-bcdl,p9-abcdefghijkl");
        Due.due("24: none", x.more(0, 0, 0, 0), 66);
        Due.due("24: which", x.more(0, 0, 0, 1), 0);
        Due.due("24: the other half of one", x.more(0, 1, 0, 0), 80);
        Due.due("24: which", x.more(0, 1, 0, 1), 2);
        Due.due("24: and a lone one", x.more(0, 2, 0, 0), 86);
        Due.due("24: the least set", x.more(0, 2, 0, 1), 6);
        Due.due("24: a whole one beside it", x.more(0, 3, 9, 0), 80 - 9 + 20 - 18);
        Due.due("24: which", x.more(0, 3, 9, 1), 14);
        Due.due("24: not for 10", x.more(0, 4, 10, 0), 70);
        Due.due("24: of like ones the least set", x.more(0, 4, 10, 1), 2);
        Due.due("24: too dear", x.more(0, 4, 20, 0), 66);
        Due.due("24: too dear", x.more(0, 4, 20, 1), 0);
        Due.due("24: all four", x.more(1, 4, 0, 0), x.of(1, 5) + 6 + 6 + 6 + 11);
        Due.due("24: what the beloved has is worth more", x.more(1, 1, 10, 1), 2048);
        Due.due("24: no gain, no set", x.more(2, 4, 6, 1), 0);
        Due.due("24: four", x.more(2, 4, 5, 1), 15);
        Due.due("24: how much", x.more(2, 4, 5, 0), 4);
        Due.due("24: nobody", x.more(3, 0, 0, 0), SundayMarket.BAD);
        Due.due("24: nobody", x.more(-1, 0, 0, 0), SundayMarket.BAD);
        Due.due("24: k 5", x.more(0, 5, 0, 0), SundayMarket.BAD);
        Due.due("24: k -1", x.more(0, -1, 0, 0), SundayMarket.BAD);
        Due.due("24: c 21", x.more(0, 0, 21, 0), SundayMarket.BAD);
        Due.due("24: c -1", x.more(0, 0, -1, 0), SundayMarket.BAD);
        Due.due("24: what", x.more(0, 0, 0, 2), SundayMarket.BAD);
        Due.due("24: what", x.more(0, 0, 0, -1), SundayMarket.BAD);
    }

    private static void envy() {
        SundayMarket x = Due.market("......;p9-ab,p9-a,p9-c+d,l9>1-abcdefghijk,r9-bdfhjl");
        Due.due("25: the first of like ones", x.envy(0, 0), 1);
        Due.due("25: how much", x.envy(0, 1), 66);
        Due.due("25: none", x.envy(1, 0), SundayMarket.NONE);
        Due.due("25: none", x.envy(1, 1), SundayMarket.NONE);
        Due.due("25: several are no more than one", x.envy(2, 0), SundayMarket.NONE);
        Due.due("25: the beloved's, who has them, too", x.envy(3, 0), 1);
        Due.due("25: how much", x.envy(3, 1), 121);
        Due.due("25: a ringer", x.envy(4, 0), 1);
        Due.due("25: a ringer's", x.envy(4, 1), 56);
        SundayMarket y = Due.market("......;p9-b,p9-a");
        Due.due("25: like ones are not more", y.envy(0, 0), SundayMarket.NONE);
        Due.due("25: nobody", x.envy(5, 0), SundayMarket.BAD);
        Due.due("25: nobody", x.envy(-1, 0), SundayMarket.BAD);
        Due.due("25: what", x.envy(0, 2), SundayMarket.BAD);
        Due.due("25: what", x.envy(0, -1), SundayMarket.BAD);
    }

    private static void both() {
        SundayMarket x = Due.market("......;p9-ab,p9-al+c");
        Due.due("26: both", x.both(0, 1), 4095 - 1 - 2 - 2048);
        Due.due("26: both", x.both(1, 0), 4095 - 1 - 2 - 2048);
        Due.due("26: itself", x.both(0, 0), 4092);
        Due.due("26: nobody", x.both(2, 0), SundayMarket.BAD);
        Due.due("26: nobody", x.both(0, 2), SundayMarket.BAD);
        Due.due("26: nobody", x.both(-1, 0), SundayMarket.BAD);
        Due.due("26: nobody", x.both(0, -1), SundayMarket.BAD);
    }

    private static void hands() {
        SundayMarket x = Due.market("......;p9-ab,p9-al+c,p9,p9-l,p9,p9-a");
        Due.due("27: a", x.hands(0), 35);
        Due.due("27: b", x.hands(1), 1);
        Due.due("27: c", x.hands(2), 0);
        Due.due("27: l", x.hands(11), 10);
        Due.due("27: half 12", x.hands(12), SundayMarket.BAD);
        Due.due("27: half -1", x.hands(-1), SundayMarket.BAD);
    }

    private static void fraction(SundayMarket x, int one, int u, int c, int above, int below) {
        String call = "28: rain(" + one + ", " + u + ", " + c;
        Due.due(call + ", 0)", x.rain(one, u, c, 0), above);
        Due.due(call + ", 1)", x.rain(one, u, c, 1), below);
    }

    private static void rain() {
        SundayMarket x = Due.market("......;p9,p9-cdefghijkl,r9-bdfhjl");
        fraction(x, 0, 0, 5, 1, 1);
        fraction(x, 0, 36, 10, 1, 1);
        fraction(x, 0, 37, 10, 0, 1);
        fraction(x, 0, 72, 0, 1, 1);
        fraction(x, 0, 73, 0, 0, 1);
        fraction(x, 0, 72, 5, 1, 64);
        fraction(x, 0, 72, 1, 531441, 1000000);
        fraction(x, 0, 66, 1, 177147, 200000);
        fraction(x, 1, 12, 3, 7, 10);
        fraction(x, 1, 7, 4, 3, 5);
        fraction(x, 1, 6, 4, 1, 1);
        fraction(x, 2, 0, 4, 1, 1);
        fraction(x, 2, 1, 4, 0, 1);
        fraction(x, 0, 300, 5, 0, 1);
        SundayMarket y = Due.market("wwwwww;p9");
        fraction(y, 0, 36, 7, 1, 1);
        fraction(y, 0, 37, 7, 0, 1);
        Due.due("28: nobody", x.rain(3, 0, 0, 0), SundayMarket.BAD);
        Due.due("28: nobody", x.rain(-1, 0, 0, 0), SundayMarket.BAD);
        Due.due("28: u 301", x.rain(0, 301, 0, 0), SundayMarket.BAD);
        Due.due("28: u -1", x.rain(0, -1, 0, 0), SundayMarket.BAD);
        Due.due("28: c 11", x.rain(0, 0, 11, 0), SundayMarket.BAD);
        Due.due("28: c -1", x.rain(0, 0, -1, 0), SundayMarket.BAD);
        Due.due("28: what", x.rain(0, 0, 0, 2), SundayMarket.BAD);
        Due.due("28: what", x.rain(0, 0, 0, -1), SundayMarket.BAD);
    }

    private static void image() {
        SundayMarket x = Due.market(FIVE);
        Due.due("30: none", x.restore(), SundayMarket.NONE);
        x.least(4);
        x.seed(44);
        x.make(0, 0, 1);
        x.give(0, 1, 9);
        x.sheet(0, 2, 3);
        x.type('p');
        String before = Due.view(x);
        Due.due("29: image", x.image(), 1);
        Due.same("29: nothing is changed", Due.view(x), before);
        x.undo();
        x.drift(20);
        x.love(0, 3);
        x.least(9);
        x.drop(0);
        x.type('q');
        Due.tell(x, "......;p9,p9");
        Due.due("30: the tape is empty", x.type('r'), 1);
        x.read();
        Due.due("30: restore", x.restore(), 1);
        Due.same("30: as it was", Due.view(x), before);
        Due.due("30: but the sheets", x.drop(0), SundayMarket.NULL);
        Due.due("30: and the tape", x.type('s'), 1);
        Due.due("30: what may be undone, too", x.undo(), 1);
        Due.due("30: the chalk", x.of(0, 2), 30);
        Due.due("30: and the first", x.undo(), 0);
        Due.due("30: the rain", x.at(0, 0), 0);
        Due.due("30: again", x.restore(), 1);
        Due.same("30: as it was, again", Due.view(x), before);
    }

    private static void latestImage() {
        SundayMarket x = Due.market(FIVE);
        x.image();
        x.person(0);
        String later = Due.view(x);
        x.image();
        x.drift(1);
        x.restore();
        Due.same("30: the latest image", Due.view(x), later);
    }

    private static void nothingIsChanged() {
        SundayMarket x = Due.market(FIVE);
        x.drift(3);
        String before = Due.view(x);
        x.gain(4, 2, 0);
        x.middle(4, 2, 0);
        for (int what = 0; what < 2; what++) {
            x.best(what);
            x.market(what);
            x.longest(1, what);
            x.stretch(1, 5, what);
            x.more(1, 4, 1, what);
            x.envy(1, what);
            x.rain(1, 40, 3, what);
        }
        x.both(1, 2);
        x.hands(3);
        Due.same("18 to 28: nothing is changed", Due.view(x), before);
    }
}
