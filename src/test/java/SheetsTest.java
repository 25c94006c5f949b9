/** Promises 31 to 36: what rows tell, and the sheets themselves. */
public final class SheetsTest {
    private static final int BAD = SundayMarket.BAD, NULL = SundayMarket.NULL, CAST = SundayMarket.CAST,
        INDEX = SundayMarket.INDEX, SIZE = SundayMarket.SIZE;

    public static void main(String[] args) {
        toldKinds();
        toldLoves();
        toldWrong();
        film();
        filmWrong();
        sheet();
        drop();
        item();
        copy();
        copyWrong();
        Due.end();
    }

    /** Whether item i of a sheet is v, seen by what it tells of one who has half 0 and loves nobody, or lacks it. */
    private static boolean isItem(SundayMarket x, int sheet, int lane, int i, int v) {
        int kinds = x.told(0, sheet, lane, i, 1, 0);
        return v == 0 ? kinds == 16 : v == 6 ? kinds == 11 : v == 10 ? kinds == 4 : kinds == 0;
    }

    private static void items(String what, SundayMarket x, int sheet, int lane, int... want) {
        for (int i = 0; i < want.length; i++) {
            Due.due(what + ", item " + i, isItem(x, sheet, lane, i, want[i]) ? 1 : 0, 1);
        }
    }

    private static void toldKinds() {
        SundayMarket x = Due.market("h.....;p9>1-d,p9-bf");
        x.sheet(0, 2, 24);
        int[][] rows = {{6, 6, 6, 0, 6}, {15, 15, 6, 0, 6}, {10, 10, 6, 0, 10}, {20, 15, 11, 0, 11}, {0, 10, 0, 0, 0}};
        for (int kind = 0; kind < 5; kind++) {
            for (int half = 0; half < 5; half++) {
                x.item(0, 2, 7 + half, rows[kind][half]);
            }
            Due.due("31: kind " + kind, x.told(0, 0, 2, 7, 5, 0), 1 << kind);
        }
        for (int half = 0; half < 12; half++) {
            x.item(0, 2, half, 0);
        }
        Due.due("31: a morning that it has is worth nothing to a ringer alone", x.told(0, 0, 2, 3, 1, 0), 16);
        SundayMarket y = Due.market("......;o9-ab,p9");
        y.sheet(0, 0, 3);
        Due.due("31: all kinds", y.told(0, 0, 0, 0, 2, 0), 31);
        Due.due("31: it has the third", y.told(0, 0, 0, 0, 3, 0), 16);
        y.item(0, 0, 2, 6);
        Due.due("31: itself, so a lover is as a farmer", y.told(0, 0, 0, 0, 3, 0), 11);
        y.item(0, 0, 2, -250);
        Due.due("31: lowest bits of a byte", y.told(0, 0, 0, 0, 3, 0), 11);
        y.sheet(0, 3, 3);
        y.item(0, 3, 2, 6 + (1L << 32));
        Due.due("31: all bits of a long", y.told(0, 0, 3, 0, 3, 0), 0);
    }

    private static void toldLoves() {
        SundayMarket x = Due.market("......;l9>1,p9-a,p9-b,p9-ab,f9");
        x.sheet(1, 1, 12);
        int[][] rows = {{6, 6}, {11, 6}, {6, 11}, {11, 11}, {10, 10}, {0, 0}};
        int[] loves = {9, 4, 2, 16, 0, 0};
        for (int k = 0; k < rows.length; k++) {
            x.item(1, 1, 10, rows[k][0]);
            x.item(1, 1, 11, rows[k][1]);
            Due.due("31: whom", x.told(0, 1, 1, 10, 2, 1), loves[k]);
        }
        x.item(1, 1, 10, 6);
        x.item(1, 1, 11, 6);
        Due.due("31: who is no lover may love all", x.told(4, 1, 1, 10, 2, 1), 31);
        Due.due("31: lacks a", x.told(1, 1, 1, 10, 2, 1), 0);
    }

    private static void toldWrong() {
        SundayMarket x = Due.market("......;p9");
        x.sheet(0, 2, 12);
        Due.due("31: nobody", x.told(1, 0, 2, 0, 1, 0), BAD);
        Due.due("31: nobody", x.told(-1, 0, 2, 0, 1, 0), BAD);
        Due.due("31: sheet 4", x.told(0, 4, 2, 0, 1, 0), BAD);
        Due.due("31: sheet -1", x.told(0, -1, 2, 0, 1, 0), BAD);
        Due.due("31: lane 4", x.told(0, 0, 4, 0, 1, 0), BAD);
        Due.due("31: lane -1", x.told(0, 0, -1, 0, 1, 0), BAD);
        Due.due("31: n 0", x.told(0, 0, 2, 0, 0, 0), BAD);
        Due.due("31: n 13", x.told(0, 0, 2, 0, 13, 0), BAD);
        Due.due("31: what", x.told(0, 0, 2, 0, 1, 2), BAD);
        Due.due("31: what", x.told(0, 0, 2, 0, 1, -1), BAD);
        Due.due("31: bad before null", x.told(0, 1, 2, 0, 13, 0), BAD);
        Due.due("31: null before index", x.told(0, 1, 2, -1, 1, 0), NULL);
        Due.due("31: cast before index", x.told(0, 0, 1, -1, 1, 0), CAST);
        Due.due("31: i -1", x.told(0, 0, 2, -1, 1, 0), INDEX);
        Due.due("31: i 12", x.told(0, 0, 2, 12, 1, 0), INDEX);
        Due.due("31: beyond the end", x.told(0, 0, 2, 1, 12, 0), INDEX);
        Due.due("31: the greatest i", x.told(0, 0, 2, Integer.MAX_VALUE, 12, 0), INDEX);
        Due.due("31: up to the end", x.told(0, 0, 2, 0, 12, 0), 0);
    }

    private static void film() {
        SundayMarket x = Due.market("wh....;l9>1-d,p9-af");
        int[] worths = {3, 8, 20, 0, 11, 6, 11, 11, 11, 11, 11, 11};
        for (int lane = 0; lane < 4; lane++) {
            x.sheet(2, lane, 16);
            for (int i = 0; i < 16; i++) {
                x.item(2, lane, i, 7);
            }
            Due.due("32: film", x.film(0, 12, 2, lane, 3), 12);
            Due.due("32: told", x.told(0, 2, lane, 3, 12, 0), 8);
            Due.due("32: told", x.told(0, 2, lane, 3, 12, 1), 2);
            for (int half = 0; half < 12; half++) {
                Due.due("32: as has", x.has(0, half, 1), worths[half]);
            }
        }
        SundayMarket y = Due.market("......;p9");
        y.sheet(0, 0, 5);
        Due.due("32: three", y.film(0, 3, 0, 0, 1), 3);
        items("32: no more than three", y, 0, 0, 0, 6, 6, 6, 0);
    }

    private static void filmWrong() {
        SundayMarket x = Due.market("......;p9");
        x.sheet(0, 2, 12);
        Due.due("32: nobody", x.film(1, 1, 0, 2, 0), BAD);
        Due.due("32: nobody", x.film(-1, 1, 0, 2, 0), BAD);
        Due.due("32: n 0", x.film(0, 0, 0, 2, 0), BAD);
        Due.due("32: n 13", x.film(0, 13, 0, 2, 0), BAD);
        Due.due("32: sheet 4", x.film(0, 1, 4, 2, 0), BAD);
        Due.due("32: sheet -1", x.film(0, 1, -1, 2, 0), BAD);
        Due.due("32: lane 4", x.film(0, 1, 0, 4, 0), BAD);
        Due.due("32: lane -1", x.film(0, 1, 0, -1, 0), BAD);
        Due.due("32: null before index", x.film(0, 1, 1, 2, -1), NULL);
        Due.due("32: cast before index", x.film(0, 1, 0, 3, -1), CAST);
        Due.due("32: i -1", x.film(0, 1, 0, 2, -1), INDEX);
        Due.due("32: beyond the end", x.film(0, 12, 0, 2, 1), INDEX);
        Due.due("32: the greatest i", x.film(0, 12, 0, 2, Integer.MAX_VALUE), INDEX);
        items("32: nothing is written", x, 0, 2, 0, 0, 0, 0, 0, 0, 0, 0, 0, 0, 0, 0);
    }

    private static void sheet() {
        SundayMarket x = Due.market("......;p9");
        Due.due("33: sheet 4", x.sheet(4, 0, 1), BAD);
        Due.due("33: sheet -1", x.sheet(-1, 0, 1), BAD);
        Due.due("33: lane 4", x.sheet(0, 4, 1), BAD);
        Due.due("33: lane -1", x.sheet(0, -1, 1), BAD);
        Due.due("33: n 25", x.sheet(0, 0, 25), BAD);
        Due.due("33: n -1", x.sheet(0, 0, -1), SIZE);
        Due.due("33: bad before size", x.sheet(4, 0, -1), BAD);
        Due.due("33: nothing yet", x.drop(0), NULL);
        Due.due("33: n 0", x.sheet(0, 0, 0), 0);
        Due.due("33: an empty row is a row", x.item(0, 0, 0, 1), INDEX);
        Due.due("33: n 24", x.sheet(3, 3, 24), 24);
        Due.due("33: the last item", x.item(3, 3, 23, 1), 1);
        x.item(3, 3, 0, 6);
        Due.due("33: size refused", x.sheet(3, 0, -5), SIZE);
        Due.due("33: it stays", isItem(x, 3, 3, 0, 6) ? 1 : 0, 1);
        Due.due("33: anew", x.sheet(3, 3, 24), 24);
        Due.due("33: a new row is 0", isItem(x, 3, 3, 0, 0) ? 1 : 0, 1);
        Due.due("33: another lane", x.sheet(3, 1, 2), 2);
        Due.due("33: the old lane", x.item(3, 3, 0, 1), CAST);
        Due.due("33: shorter", x.item(3, 1, 2, 1), INDEX);
    }

    private static void drop() {
        SundayMarket x = new SundayMarket();
        Due.due("34: sheet 4", x.drop(4), BAD);
        Due.due("34: sheet -1", x.drop(-1), BAD);
        Due.due("34: nothing", x.drop(1), NULL);
        x.sheet(1, 2, 9);
        x.sheet(2, 2, 0);
        Due.due("34: nine", x.drop(1), 9);
        Due.due("34: nothing then", x.drop(1), NULL);
        Due.due("34: no item", x.item(1, 2, 0, 1), NULL);
        Due.due("34: an empty one", x.drop(2), 0);
    }

    private static void item() {
        SundayMarket x = Due.market("......;p9");
        long[] tops = {1L << 8, 1L << 16, 1L << 32};
        for (int lane = 0; lane < 4; lane++) {
            x.sheet(0, lane, 2);
            Due.due("35: item", x.item(0, lane, 1, 6), 1);
            items("35: item of lane " + lane, x, 0, lane, 0, 6);
            for (int k = 0; k < 3; k++) {
                x.item(0, lane, 0, 6 - tops[k]);
                items("35: lowest bits, lane " + lane, x, 0, lane, lane <= k ? 6 : 1);
            }
            x.item(0, lane, 0, 6 + Long.MIN_VALUE);
            items("35: lowest bits, lane " + lane, x, 0, lane, lane < 3 ? 6 : 1);
        }
        Due.due("35: sheet 4", x.item(4, 3, 0, 1), BAD);
        Due.due("35: sheet -1", x.item(-1, 3, 0, 1), BAD);
        Due.due("35: lane 4", x.item(0, 4, 0, 1), BAD);
        Due.due("35: lane -1", x.item(0, -1, 0, 1), BAD);
        Due.due("35: null", x.item(1, 3, -1, 1), NULL);
        Due.due("35: cast", x.item(0, 2, -1, 1), CAST);
        Due.due("35: i -1", x.item(0, 3, -1, 1), INDEX);
        Due.due("35: i 2", x.item(0, 3, 2, 1), INDEX);
        Due.due("35: the greatest i", x.item(0, 3, Integer.MAX_VALUE, 1), INDEX);
        Due.due("35: the least i", x.item(0, 3, Integer.MIN_VALUE, 1), INDEX);
    }

    private static SundayMarket sixAndTen() {
        SundayMarket x = Due.market("......;p9");
        x.sheet(0, 1, 6);
        x.sheet(1, 1, 4);
        int[] values = {6, 10, 0, 10, 6, 6};
        for (int i = 0; i < 6; i++) {
            x.item(0, 1, i, values[i]);
        }
        return x;
    }

    private static void copy() {
        SundayMarket x = sixAndTen();
        items("36: before", x, 0, 1, 6, 10, 0, 10, 6, 6);
        Due.due("36: to another one", x.copy(0, 1, 1, 2, 2), 2);
        items("36: comes there", x, 1, 1, 0, 0, 10, 0);
        Due.due("36: to another one", x.copy(0, 0, 1, 0, 4), 4);
        items("36: comes there", x, 1, 1, 6, 10, 0, 10);
        items("36: stays here", x, 0, 1, 6, 10, 0, 10, 6, 6);
        Due.due("36: up the same one", x.copy(0, 0, 0, 1, 5), 5);
        items("36: as if taken ahead", x, 0, 1, 6, 6, 10, 0, 10, 6);
        Due.due("36: down the same one", x.copy(0, 2, 0, 0, 4), 4);
        items("36: as if taken ahead", x, 0, 1, 10, 0, 10, 6, 10, 6);
        Due.due("36: none at the end", x.copy(0, 6, 1, 4, 0), 0);
        Due.due("36: none", x.copy(0, 0, 0, 0, 0), 0);
    }

    private static void copyWrong() {
        SundayMarket x = sixAndTen();
        x.sheet(2, 2, 6);
        Due.due("36: from 4", x.copy(4, 0, 1, 0, 1), BAD);
        Due.due("36: from -1", x.copy(-1, 0, 1, 0, 1), BAD);
        Due.due("36: to 4", x.copy(0, 0, 4, 0, 1), BAD);
        Due.due("36: to -1", x.copy(0, 0, -1, 0, 1), BAD);
        Due.due("36: from nothing", x.copy(3, -1, 0, 0, 1), NULL);
        Due.due("36: to nothing", x.copy(0, -1, 3, 0, 1), NULL);
        Due.due("36: nothing to itself", x.copy(3, 0, 3, 0, 0), NULL);
        Due.due("36: cast before index", x.copy(0, -1, 2, 0, 1), CAST);
        Due.due("36: cast of none", x.copy(2, 0, 0, 0, 0), CAST);
        Due.due("36: i -1", x.copy(0, -1, 1, 0, 1), INDEX);
        Due.due("36: j -1", x.copy(0, 0, 1, -1, 1), INDEX);
        Due.due("36: n -1", x.copy(0, 0, 1, 0, -1), INDEX);
        Due.due("36: i beyond", x.copy(0, 5, 1, 0, 2), INDEX);
        Due.due("36: j beyond", x.copy(0, 0, 1, 3, 2), INDEX);
        Due.due("36: none beyond the end", x.copy(0, 7, 1, 0, 0), INDEX);
        Due.due("36: none beyond the end", x.copy(0, 0, 1, 5, 0), INDEX);
        Due.due("36: the greatest n", x.copy(0, 1, 1, 1, Integer.MAX_VALUE), INDEX);
        Due.due("36: the least n", x.copy(0, 1, 1, 1, Integer.MIN_VALUE), INDEX);
        Due.due("36: the greatest i", x.copy(0, Integer.MAX_VALUE, 1, 1, 1), INDEX);
        Due.due("36: the greatest j", x.copy(0, 1, 1, Integer.MAX_VALUE, 1), INDEX);
        items("36: nothing is changed", x, 0, 1, 6, 10, 0, 10, 6, 6);
        items("36: nothing is changed", x, 1, 1, 0, 0, 0, 0);
    }
}
