/** Promises 1 to 10 but for the faults of texts: a new object, people, Sundays, the tape. */
public final class PeopleTest {
    public static void main(String[] args) {
        newObject();
        person();
        love();
        least();
        of();
        has();
        at();
        type();
        read();
        count();
        Due.end();
    }

    private static void newObject() {
        SundayMarket x = new SundayMarket();
        Due.same("a new object", Due.view(x), "0 2 0 0 0 0 0 | 1");
        for (int sunday = 0; sunday < 6; sunday++) {
            Due.due("1: at(" + sunday + ", 0)", x.at(sunday, 0), 0);
            Due.due("1: at(" + sunday + ", 1)", x.at(sunday, 1), 0);
        }
        Due.due("1: no image", x.restore(), SundayMarket.NONE);
        Due.due("1: no deed", x.undo(), SundayMarket.NONE);
        Due.due("1: no sheet", x.drop(0), SundayMarket.NULL);
        Due.due("1: nobody", x.of(0, 0), SundayMarket.BAD);
        Due.due("1: empty tape", x.read(), -20);
    }

    private static void person() {
        SundayMarket x = new SundayMarket();
        Due.due("2: person(-1)", x.person(-1), SundayMarket.BAD);
        Due.due("2: person(5)", x.person(5), SundayMarket.BAD);
        Due.due("2: drift", x.drift(3), 0);
        for (int one = 0; one < 6; one++) {
            Due.due("2: person", x.person(one % 5), one);
            Due.due("2: its kind", x.of(one, 0), one % 5);
            Due.due("2: loves itself", x.of(one, 1), one);
            Due.due("2: chalk", x.of(one, 2), 50);
            Due.due("2: one of each half", x.of(one, 3), 4095);
            Due.due("2: 12 in all", x.of(one, 4), 12);
            Due.due("2: nothing to undo", x.count(6), 0);
        }
        x.give(0, 1, 1);
        Due.due("2: full", x.person(0), SundayMarket.FULL);
        Due.due("2: bad before full", x.person(9), SundayMarket.BAD);
        Due.due("2: a refused one leaves what may be undone", x.count(6), 1);
    }

    private static void love() {
        SundayMarket x = Due.market("......;l9,l9,p9");
        Due.due("3: love(0, 2)", x.love(0, 2), 0);
        Due.due("3: love(0, 1)", x.love(0, 1), 2);
        Due.due("3: of", x.of(0, 1), 1);
        Due.due("3: worth of a lover", x.of(0, 5), 132);
        Due.due("3: love(0, 0)", x.love(0, 0), 1);
        Due.due("3: who loves itself loves nobody", x.of(0, 5), 72);
        Due.due("3: love(3, 0)", x.love(3, 0), SundayMarket.BAD);
        Due.due("3: love(0, 3)", x.love(0, 3), SundayMarket.BAD);
        Due.due("3: love(-1, 0)", x.love(-1, 0), SundayMarket.BAD);
        Due.due("3: love(0, -1)", x.love(0, -1), SundayMarket.BAD);
        Due.due("3: it is no deed", x.count(6), 0);
    }

    private static void least() {
        SundayMarket x = new SundayMarket();
        Due.due("4: least(0)", x.least(0), 2);
        Due.due("4: least(12)", x.least(12), 0);
        Due.due("4: least(13)", x.least(13), SundayMarket.BAD);
        Due.due("4: least(-1)", x.least(-1), SundayMarket.BAD);
        Due.due("4: it stays", x.count(1), 12);
    }

    private static void of() {
        SundayMarket x = Due.market("w..h..;p7,f8>0-ab+cd");
        Due.due("5: kind", x.of(1, 0), 1);
        Due.due("5: love", x.of(1, 1), 0);
        Due.due("5: chalk", x.of(1, 2), 8);
        Due.due("5: set", x.of(1, 3), 4092);
        Due.due("5: in all", x.of(1, 4), 12);
        Due.due("5: worth, several no more than one", x.of(1, 5), 78);
        Due.due("5: worth of a plain one", x.of(0, 5), 66);
        Due.due("5: of(1, 6)", x.of(1, 6), SundayMarket.BAD);
        Due.due("5: of(1, -1)", x.of(1, -1), SundayMarket.BAD);
        Due.due("5: of(2, 0)", x.of(2, 0), SundayMarket.BAD);
        Due.due("5: of(-1, 0)", x.of(-1, 0), SundayMarket.BAD);
    }

    private static void has() {
        // Sundays: dry, wet, harvest, both; the beloved has neither a nor c; the others lack d, and have two of e.
        SundayMarket x = Due.market(".whb..;p9-ac,p9-d+e,f9-d+e,o9-d+e,l9>0-d+e,r9-d+e");
        int[][] worths = {
            {6, 6, 3, 0, 6, 6, 3, 3},
            {6, 6, 3, 0, 15, 15, 12, 12},
            {10, 10, 3, 0, 10, 10, 7, 7},
            {6, 11, 3, 0, 20, 20, 17, 17},
            {0, 10, 0, 0, 0, 10, 0, 7},
        };
        for (int kind = 0; kind < 5; kind++) {
            for (int half = 0; half < 8; half++) {
                Due.due("6: worth of half " + half + " to kind " + kind, x.has(kind + 1, half, 1), worths[kind][half]);
            }
            Due.due("6: none of d", x.has(kind + 1, 3, 0), 0);
            Due.due("6: two of e", x.has(kind + 1, 4, 0), 2);
        }
        Due.due("6: has(6, 0, 0)", x.has(6, 0, 0), SundayMarket.BAD);
        Due.due("6: has(0, 12, 0)", x.has(0, 12, 0), SundayMarket.BAD);
        Due.due("6: has(0, -1, 0)", x.has(0, -1, 0), SundayMarket.BAD);
        Due.due("6: has(0, 0, 2)", x.has(0, 0, 2), SundayMarket.BAD);
        Due.due("6: has(0, 0, -1)", x.has(0, 0, -1), SundayMarket.BAD);
        SundayMarket y = Due.market("......;r9-b");
        Due.due("6: a ringer's morning", y.has(0, 0, 1), 0);
        Due.due("6: a ringer's afternoon without its morning", Due.market("......;r9-a").has(0, 1, 1), 6);
    }

    private static void at() {
        SundayMarket x = Due.market(".whb..;p9");
        int[] wet = {0, 1, 0, 1, 0, 0};
        int[] harvest = {0, 0, 1, 1, 0, 0};
        for (int sunday = 0; sunday < 6; sunday++) {
            Due.due("7: wet", x.at(sunday, 0), wet[sunday]);
            Due.due("7: harvest", x.at(sunday, 1), harvest[sunday]);
        }
        Due.due("7: at(6, 0)", x.at(6, 0), SundayMarket.BAD);
        Due.due("7: at(-1, 0)", x.at(-1, 0), SundayMarket.BAD);
        Due.due("7: at(0, 2)", x.at(0, 2), SundayMarket.BAD);
        Due.due("7: at(0, -1)", x.at(0, -1), SundayMarket.BAD);
    }

    private static void type() {
        SundayMarket x = new SundayMarket();
        Due.due("8: type(31)", x.type(31), SundayMarket.BAD);
        Due.due("8: type(127)", x.type(127), SundayMarket.BAD);
        for (int i = 1; i <= 100; i++) {
            Due.due("8: type", x.type(i % 2 == 0 ? 32 : 126), i);
        }
        Due.due("8: full", x.type(65), SundayMarket.FULL);
        Due.due("8: bad before full", x.type(31), SundayMarket.BAD);
        x.read();
        Due.due("8: empty behind read", x.type(65), 1);
    }

    private static void read() {
        SundayMarket x = new SundayMarket();
        x.person(3);
        x.person(3);
        x.least(5);
        x.seed(77);
        x.give(0, 1, 5);
        String before = Due.view(x);
        Due.due("9: a fault", Due.tell(x, "......;p9,"), -30);
        Due.same("9: all stays behind a fault", Due.view(x), before);
        Due.due("9: the tape is empty behind a fault", x.type(32), 1);
        x.read();
        Due.due("9: a market", Due.tell(x, " w h . . . b ; l 5 > 2 - a b + l , p 99 , r 0 - l "), 3);
        Due.same("9: what is told", Due.view(x), "3 5 33 34 242 104 0 "
            + "| 3 2 5 4092 11 135 0 0 1 1 1 1 1 1 1 1 1 2 "
            + "| 0 1 99 4095 12 60 1 1 1 1 1 1 1 1 1 1 1 1 "
            + "| 4 2 0 2047 11 47 1 1 1 1 1 1 1 1 1 1 1 0 | 77");
        Due.due("9: chalk", x.of(0, 2), 5);
        Due.due("9: loves who is told later", x.of(0, 1), 2);
        Due.due("9: else itself", x.of(1, 1), 1);
        Due.due("9: one less", x.has(0, 0, 0), 0);
        Due.due("9: one more", x.has(0, 11, 0), 2);
        Due.due("9: nothing may be undone", x.undo(), SundayMarket.NONE);
        Due.due("9: one less and one more", Due.market("......;p0-c+c").has(0, 2, 0), 1);
        Due.due("9: six", Due.tell(x, "......;p0,f1,o2,l3,r4,p5"), 6);
    }

    private static void count() {
        SundayMarket x = Due.market(".whb..;p7,f8>0-ab+cd");
        x.make(5, 0, 1);
        Due.due("10: people", x.count(0), 2);
        Due.due("10: least", x.count(1), 2);
        Due.due("10: wet", x.count(2), 42);
        Due.due("10: harvest", x.count(3), 12);
        Due.due("10: worth", x.count(4), x.of(0, 5) + x.of(1, 5));
        Due.due("10: worth of the plain one", x.of(0, 5), 54);
        Due.due("10: chalk", x.count(5), 15);
        Due.due("10: may be undone", x.count(6), 1);
        Due.due("10: count(7)", x.count(7), SundayMarket.BAD);
        Due.due("10: count(-1)", x.count(-1), SundayMarket.BAD);
    }
}
