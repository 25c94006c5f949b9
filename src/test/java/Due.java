/** Counts answers that are not as due; every test ends by end(). */
final class Due {
    private static int wrong = 0;
    private static int asked = 0;

    private Due() {
    }

    static void due(String call, long got, long want) {
        asked++;
        if (got != want) {
            wrong++;
            System.out.println(call + " answered " + got + ", due is " + want);
        }
    }

    static void same(String what, String got, String want) {
        asked++;
        if (!got.equals(want)) {
            wrong++;
            System.out.println(what + " is " + got + ", due is " + want);
        }
    }

    static void end() {
        System.out.println(wrong == 0 ? "all " + asked + " answers are as due" : wrong + " answers are not as due");
        if (wrong != 0) {
            System.exit(1);
        }
    }

    /** Types a text and reads it. */
    static int tell(SundayMarket x, String text) {
        for (char letter : text.toCharArray()) {
            x.type(letter);
        }
        return x.read();
    }

    static SundayMarket market(String text) {
        SundayMarket x = new SundayMarket();
        int people = tell(x, text);
        if (people < 1) {
            due("read() of " + text, people, 1);
        }
        return x;
    }

    /** All that can be seen of people, Sundays, least, the draw and what may be undone. */
    static String view(SundayMarket x) {
        StringBuilder out = new StringBuilder();
        for (int what = 0; what <= 6; what++) {
            out.append(x.count(what)).append(' ');
        }
        for (int one = 0; one < x.count(0); one++) {
            out.append("| ");
            for (int what = 0; what <= 5; what++) {
                out.append(x.of(one, what)).append(' ');
            }
            for (int half = 0; half < 12; half++) {
                out.append(x.has(one, half, 0)).append(' ');
            }
        }
        int draw = x.seed(0);
        x.seed(draw);
        return out.append("| ").append(draw).toString();
    }
}
