import java.util.regex.Matcher;
import java.util.regex.Pattern;

/** The text of a market as a pattern: a letter can't stand where no text goes on with it. */
final class Grammar {
    private static final String HALVES = "(?=[a-l])a? *b? *c? *d? *e? *f? *g? *h? *i? *j? *k? *l? *";
    private static final String ONE =
        "[pfolr] *[0-9][0-9]? *(?:> *[0-5] *)?(?:- *" + HALVES + ")?(?:\\+ *" + HALVES + ")?";
    private static final Pattern TEXT = Pattern.compile(" *(?:[.whb] *){6}; *" + ONE + "(?:, *" + ONE + "){0,5}");

    private Grammar() {
    }

    /** How many people a text tells, or its fault. */
    static int read(String text) {
        for (int n = 1; n <= text.length(); n++) {
            if (!goesOn(text.substring(0, n))) {
                return -20 - (n - 1);
            }
        }
        if (!TEXT.matcher(text).matches()) {
            return -20 - text.length();
        }
        int people = text.split(",").length;
        for (int i = 0; i < text.length(); i++) {
            if (text.charAt(i) == '>' && text.substring(i + 1).strip().charAt(0) - '0' >= people) {
                return -20 - text.length();
            }
        }
        return people;
    }

    private static boolean goesOn(String start) {
        Matcher matcher = TEXT.matcher(start);
        return matcher.matches() || matcher.hitEnd();
    }
}
