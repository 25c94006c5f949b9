import java.util.Random;

/** Promise 9: markets as texts, and their faults, against the grammar as a pattern and by hand. */
public final class TextTest {
    private static final String LETTERS = ".whb;pfolr0123456789>-+,abcdefghijkl mZ~`/:";

    public static void main(String[] args) {
        faults();
        randomTexts();
        Due.end();
    }

    private static void read(String text, int want) {
        Due.due("9: the grammar's word on '" + text + "'", Grammar.read(text), want);
        Due.due("9: read of '" + text + "'", Due.tell(new SundayMarket(), text), want);
    }

    private static void faults() {
        read("", -20);
        read("   ", -23);
        read("  x", -22);
        read(".....", -25);
        read("......", -26);
        read("...... ", -27);
        read(".......", -26);
        read("......;", -27);
        read("......;;", -27);
        read("......;p", -28);
        read("......;pp", -28);
        read("......;P9", -27);
        read("......;p9", 1);
        read(" . . . . . . ; p 9 ", 1);
        read("......;p 09", 1);
        read("......;p00", 1);
        read("......;p999", -30);
        read("......;p9 9", -30);
        read("......;p9  9", -31);
        read("......;p9>", -30);
        read("......;p9>6", -30);
        read("......;p9>9", -30);
        read("......;p9>a", -30);
        read("......;p9>00", -31);
        read("......;p9>0 0", -32);
        read("......;p9>0>0", -31);
        read("......;p9>0", 1);
        read("......;p9 > 0 ", 1);
        read("......;p9>1", -31);
        read("......;p9>1 ", -32);
        read("......;p9>1,p9", 2);
        read("......;p9>5,p9", -34);
        read("......;p9>5,p9,p9,p9,p9,p9", 6);
        read("......;p9>1x", -31);
        read("......;p9,p9>2,", -35);
        read("......;p9-", -30);
        read("......;p9-+", -30);
        read("......;p9-m", -30);
        read("......;p9-`", -30);
        read("......;p9-`a", -30);
        read("......;p9/", -29);
        read("......;p9:", -29);
        read("......;p9-aa", -31);
        read("......;p9-ba", -31);
        read("......;p9-a b", 1);
        read("......;p9-abcdefghijkl", 1);
        read("......;p9-abcdefghijkll", -42);
        read("......;p9-l", 1);
        read("......;p9-la", -31);
        read("......;p9-a-b", -31);
        read("......;p9+", -30);
        read("......;p9+a", 1);
        read("......;p9+a-a", -31);
        read("......;p9+a>0", -31);
        read("......;p9-a>0", -31);
        read("......;p9-b+a", 1);
        read("......;p9-b+a,", -34);
        read("......;p9,", -30);
        read("......;,", -27);
        read("......;p9;", -29);
        read("......;p9a", -29);
        read("......;p0,p0,p0,p0,p0,p0", 6);
        read("......;p0,p0,p0,p0,p0,p0,", -44);
        read("......;p0,p0,p0,p0,p0,p0 ,p0", -45);
        read("......;p0,p0,p0,p0,p0>7,p0", -42);
        read("......;p99>0-abcdefghijkl+abcdefghijkl,p99>0-abcdefghijkl+abcdefghijkl,p99>0-abcdefghijkl+abcdefghi", 3);
    }

    private static String oneOfPeople(Random random) {
        StringBuilder out = new StringBuilder();
        out.append("pfolr".charAt(random.nextInt(5))).append(random.nextInt(random.nextBoolean() ? 10 : 110));
        if (random.nextInt(3) == 0) {
            out.append('>').append(random.nextInt(random.nextInt(4) == 0 ? 8 : 3));
        }
        for (char sign : new char[] {'-', '+'}) {
            if (random.nextInt(3) == 0) {
                out.append(sign);
                for (char half = 'a'; half <= 'l'; half++) {
                    if (random.nextInt(4) == 0) {
                        out.append(half);
                    }
                }
            }
        }
        return out.toString();
    }

    static String text(Random random) {
        StringBuilder out = new StringBuilder();
        for (int i = 0; i < 6; i++) {
            out.append(".whb".charAt(random.nextInt(4)));
        }
        int people = 1 + random.nextInt(random.nextInt(4) == 0 ? 7 : 5);
        for (int i = 0; i < people; i++) {
            out.append(i == 0 ? ';' : ',').append(oneOfPeople(random));
        }
        for (int i = random.nextInt(4) - 1; i > 0; i--) {
            int place = random.nextInt(out.length() + 1);
            out.insert(place, LETTERS.charAt(random.nextInt(LETTERS.length())));
        }
        for (int i = random.nextInt(4) - 1; i > 0; i--) {
            out.insert(random.nextInt(out.length() + 1), ' ');
        }
        if (random.nextInt(5) == 0) {
            out.setLength(random.nextInt(out.length() + 1));
        }
        return out.substring(0, Math.min(100, out.length()));
    }

    private static void randomTexts() {
        Random random = new Random(5);
        int well = 0;
        for (int i = 0; i < 20000; i++) {
            String text = text(random);
            int want = Grammar.read(text);
            well += want > 0 ? 1 : 0;
            Due.due("9: read of '" + text + "'", Due.tell(new SundayMarket(), text), want);
        }
        Due.due("9: some are well, some are not", well > 4000 && well < 16000 ? 1 : 0, 1);
    }
}
