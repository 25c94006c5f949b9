/** Promises 11 to 17: what is sold, seized, given, made, drifted, undone. */
public final class DeedsTest {
    public static void main(String[] args) {
        sell();
        sellAtLeast();
        seize();
        give();
        make();
        drift();
        driftWithoutPeople();
        undo();
        undoLeaves();
        undoKnowsEight();
        seed();
        Due.end();
    }

    private static void sell() {
        SundayMarket x = Due.market("......;p20,p30-a");
        Due.due("11: alike", x.sell(0, 0, 0, 0), SundayMarket.BAD);
        Due.due("11: nobody sells", x.sell(-1, 0, 0, 0), SundayMarket.BAD);
        Due.due("11: nobody buys", x.sell(0, 2, 0, 0), SundayMarket.BAD);
        Due.due("11: half -1", x.sell(0, 1, -1, 0), SundayMarket.BAD);
        Due.due("11: half 12", x.sell(0, 1, 12, 0), SundayMarket.BAD);
        Due.due("11: chalk -1", x.sell(0, 1, 0, -1), SundayMarket.BAD);
        Due.due("11: chalk 100", x.sell(0, 1, 0, 100), SundayMarket.BAD);
        Due.due("11: has it not", x.sell(1, 0, 0, 0), SundayMarket.NOT);
        Due.due("11: too dear", x.sell(0, 1, 0, 31), SundayMarket.NOT);
        Due.due("11: nothing is done yet", x.count(6), 0);
        Due.due("11: a sale", x.sell(0, 1, 0, 30), 50);
        Due.due("11: who buys has less", x.of(1, 2), 0);
        Due.due("11: it is gone", x.has(0, 0, 0), 0);
        Due.due("11: it has come", x.has(1, 0, 0), 1);
        Due.due("11: one has several", x.sell(0, 1, 5, 0), 50);
        Due.due("11: two of it", x.has(1, 5, 0), 2);
        Due.due("11: may be undone", x.count(6), 2);
        Due.due("11: 99", Due.market("......;p1,p99").sell(0, 1, 0, 99), 100);
    }

    private static void sellAtLeast() {
        SundayMarket x = Due.market("......;p9-defghijkl+a,p9");
        Due.due("11: three are more than two", x.sell(0, 1, 1, 0), 9);
        Due.due("11: two unlike ones are not, though three in all", x.sell(0, 1, 2, 0), SundayMarket.NOT);
        Due.due("11: but several of this", x.sell(0, 1, 0, 0), 9);
        Due.due("11: no more", x.sell(0, 1, 0, 0), SundayMarket.NOT);
        x.least(0);
        Due.due("11: least 0", x.sell(0, 1, 0, 0), 9);
        Due.due("11: the last one", x.sell(0, 1, 2, 0), 9);
        Due.due("11: none is left", x.of(0, 3), 0);
        x.least(12);
        Due.due("11: least 12", x.sell(1, 0, 4, 0), SundayMarket.NOT);
        Due.due("11: least 12, several", x.sell(1, 0, 0, 0), 9);
    }

    private static void seize() {
        SundayMarket x = Due.market("w.h...;f9,o9-d,r9-bdfhjl,p9-abcdefghijkl");
        x.least(12);
        Due.due("12: alike", x.seize(0, 0), SundayMarket.BAD);
        Due.due("12: nobody", x.seize(4, 0), SundayMarket.BAD);
        Due.due("12: to nobody", x.seize(0, -1), SundayMarket.BAD);
        Due.due("12: has none", x.seize(3, 0), SundayMarket.NOT);
        Due.due("12: a farmer's harvest, whatever least is", x.seize(0, 3), 4);
        Due.due("12: it has come", x.of(3, 3), 16);
        Due.due("12: the next one", x.seize(0, 3), 5);
        Due.due("12: then the first dry one", x.seize(0, 3), 2);
        Due.due("12: the old one's first whole dry one", x.seize(1, 0), 4);
        Due.due("12: its other half is worth less then", x.seize(1, 0), 6);
        Due.due("12: all worth nothing, the first", x.seize(2, 0), 0);
        SundayMarket y = Due.market("......;p9-bcdefghijkl+a,p9");
        Due.due("12: one of two", y.seize(0, 1), 0);
        Due.due("12: the other one", y.seize(0, 1), 0);
        Due.due("12: none", y.seize(0, 1), SundayMarket.NOT);
        Due.due("12: three of it", y.has(1, 0, 0), 3);
    }

    private static void give() {
        SundayMarket x = Due.market("......;p20,p99");
        Due.due("13: alike", x.give(1, 1, 1), SundayMarket.BAD);
        Due.due("13: nobody", x.give(2, 1, 1), SundayMarket.BAD);
        Due.due("13: to nobody", x.give(0, 2, 1), SundayMarket.BAD);
        Due.due("13: 0", x.give(0, 1, 0), SundayMarket.BAD);
        Due.due("13: 100", x.give(1, 0, 100), SundayMarket.BAD);
        Due.due("13: too much", x.give(0, 1, 21), SundayMarket.NOT);
        Due.due("13: all", x.give(0, 1, 20), 0);
        Due.due("13: it has come", x.of(1, 2), 119);
        Due.due("13: 99", x.give(1, 0, 99), 20);
        Due.due("13: may be undone", x.count(6), 2);
    }

    private static void make() {
        SundayMarket x = new SundayMarket();
        Due.due("14: sunday 6", x.make(6, 0, 1), SundayMarket.BAD);
        Due.due("14: sunday -1", x.make(-1, 0, 1), SundayMarket.BAD);
        Due.due("14: what 2", x.make(0, 2, 1), SundayMarket.BAD);
        Due.due("14: is 2", x.make(0, 0, 2), SundayMarket.BAD);
        Due.due("14: is -1", x.make(0, 0, -1), SundayMarket.BAD);
        Due.due("14: is dry", x.make(0, 0, 0), SundayMarket.NOT);
        Due.due("14: is no harvest", x.make(0, 1, 0), SundayMarket.NOT);
        Due.due("14: wet", x.make(0, 0, 1), 1);
        Due.due("14: wet", x.make(5, 0, 1), 33);
        Due.due("14: is wet", x.make(5, 0, 1), SundayMarket.NOT);
        Due.due("14: harvest", x.make(5, 1, 1), 32);
        Due.due("14: dry", x.make(0, 0, 0), 32);
        Due.due("14: no harvest", x.make(5, 1, 0), 0);
        Due.due("14: may be undone", x.count(6), 5);
    }

    private static void drift() {
        SundayMarket x = drifted(0);
        Due.due("15: drift(0)", x.drift(0), SundayMarket.BAD);
        Due.due("15: drift(41)", x.drift(41), SundayMarket.BAD);
        Due.due("15: drift(-1)", x.drift(-1), SundayMarket.BAD);
        long draw = 1;
        int sold = 0;
        for (int i = 0; i < 60; i++) {
            draw = (draw * 1103515245L + 12345L) & 0x7fffffffL;
            sold += isSoldByDrift(i, draw) ? 1 : 0;
        }
        Due.due("15: something is sold, and something is not", sold > 5 && sold < 55 ? 1 : 0, 1);
        x.drift(20);
        Due.due("15: at once", x.drift(40), drifted(60).count(4));
        Due.due("15: eight may be undone", x.count(6), 8);
    }

    private static SundayMarket drifted(int times) {
        SundayMarket x = Due.market(".wh.bw;p30>1,f8-bd,o60-acdf+l,l5>2-g+hi,r44-ek");
        for (int i = 0; i < times; i++) {
            x.drift(1);
        }
        return x;
    }

    /** One time more behind so many, held against a second object where the same sale is asked for. */
    private static boolean isSoldByDrift(int times, long draw) {
        int seller = (int) (draw / 65536 % 5);
        int buyer = (int) (draw / 1024 % 5);
        int half = (int) (draw / 128 % 12);
        SundayMarket x = drifted(times);
        SundayMarket y = drifted(times);
        int price = y.middle(seller, buyer, half);
        int answer = y.sell(seller, buyer, half, Math.max(0, price));
        Due.due("15: drift(1)", x.drift(1), y.count(4));
        Due.due("15: the draw", x.seed(0), draw);
        for (int one = 0; one < 5; one++) {
            for (int what = 2; what < 6; what++) {
                Due.due("15: of(" + one + ", " + what + ")", x.of(one, what), y.of(one, what));
            }
        }
        return answer >= 0;
    }

    private static void driftWithoutPeople() {
        SundayMarket x = new SundayMarket();
        Due.due("15: nobody", x.drift(2), 0);
        Due.due("15: each may be undone", x.count(6), 2);
        Due.due("15: the draw goes on", x.seed(5), (1103527590L * 1103515245L + 12345L) & 0x7fffffffL);
        Due.due("15: the last one undone", x.undo(), 1);
        Due.due("15: the draw is as ahead of it", x.seed(5), 1103527590);
        Due.due("15: the first one undone", x.undo(), 0);
        Due.due("15: the draw is as at first", x.seed(5), 1);
        SundayMarket y = Due.market("......;p9");
        Due.due("15: alone", y.drift(40), 72);
    }

    private static void undo() {
        SundayMarket x = afterDeeds(0);
        Due.due("16: none", x.undo(), SundayMarket.NONE);
        x = afterDeeds(6);
        for (int left = 5; left >= 0; left--) {
            x.seed(1000 + left);
            Due.due("16: undo", x.undo(), left);
            Due.same("16: as ahead of it, the draw too", Due.view(x), Due.view(afterDeeds(left)));
        }
        Due.due("16: none is left", x.undo(), SundayMarket.NONE);
    }

    /** The first of six deeds, one of each sort. */
    private static SundayMarket afterDeeds(int n) {
        SundayMarket x = Due.market("......;p20,p30,l9");
        x.seed(9);
        for (int i = 0; i < n; i++) {
            int answer = i == 0 ? x.sell(0, 1, 3, 7) : i == 1 ? x.seize(1, 2) : i == 2 ? x.give(2, 0, 4)
                : i == 3 ? x.make(4, 0, 1) : i == 4 ? x.make(4, 1, 1) : x.drift(1);
            Due.due("16: deed " + i + " is done", answer >= 0 ? 1 : 0, 1);
        }
        return x;
    }

    private static void undoLeaves() {
        SundayMarket x = Due.market("......;p20,p30,l9");
        x.make(0, 0, 1);
        x.love(2, 0);
        x.least(7);
        x.undo();
        Due.due("16: love stays as told since", x.of(2, 1), 0);
        Due.due("16: least stays as told since", x.count(1), 7);
        x.make(0, 0, 1);
        x.person(0);
        Due.due("16: a new one leaves nothing to be undone", x.undo(), SundayMarket.NONE);
        Due.due("16: the deed stands", x.at(0, 0), 1);
        x.make(1, 0, 1);
        Due.tell(x, "......;p9");
        Due.due("16: a market leaves nothing to be undone", x.undo(), SundayMarket.NONE);
        x.make(1, 0, 1);
        Due.tell(x, "......;p9!");
        Due.due("16: a fault leaves it", x.undo(), 0);
    }

    private static void undoKnowsEight() {
        SundayMarket x = Due.market("......;p50,p0");
        for (int n = 1; n <= 9; n++) {
            x.give(0, 1, 1);
            Due.due("16: how many are known", x.count(6), Math.min(n, 8));
        }
        for (int left = 7; left >= 0; left--) {
            Due.due("16: undo of eight", x.undo(), left);
            Due.due("16: chalk", x.of(1, 2), left + 1);
        }
        Due.due("16: the ninth is lost", x.undo(), SundayMarket.NONE);
        x.drift(40);
        Due.due("16: eight of forty", x.undo(), 7);
    }

    private static void seed() {
        SundayMarket x = new SundayMarket();
        Due.due("17: at first", x.seed(0), 1);
        Due.due("17: below 0", x.seed(-1), SundayMarket.BAD);
        Due.due("17: the greatest", x.seed(Integer.MAX_VALUE), 0);
        Due.due("17: it stays", x.seed(3), Integer.MAX_VALUE);
        Due.due("17: it is no deed", x.count(6), 0);
    }
}
