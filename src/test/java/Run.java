import java.lang.reflect.InvocationTargetException;
import java.lang.reflect.Method;
import java.util.ArrayList;
import java.util.List;
import java.util.Map;

/**
 * A run on a new object, told line by line with the answer that is due:
 *
 * <pre>
 *   sell 0 1 11 5 = 14           a call
 *   text '......;p9,p9' = 2      a text typed and read
 *   edges least # : 0 .. 12      the first and last value inside; BAD right outside them and far away
 * </pre>
 *
 * Whatever answers below 0 must leave everything as it was (but for the tape that a fault empties): the object is
 * held against another one that has never made the call.
 */
final class Run {
    private static final int MOST_CALLS = 512;
    private static final int MOST_LOOKS = 250;
    private static final Map<String, Integer> NAMES = Map.of("BAD", -1, "NOT", -2, "FULL", -3, "NONE", -4, "NULL", -11,
        "CAST", -12, "INDEX", -13, "SIZE", -14);

    private final String name;
    /** The calls that have changed something, or might have. */
    private final List<String> done = new ArrayList<>();
    private final SundayMarket real = new SundayMarket();

    private Run(String name) {
        this.name = name;
    }

    static void run(String name, String lines) {
        Run run = new Run(name);
        for (String line : lines.split("\n")) {
            if (!line.isBlank()) {
                run.line(line.strip());
            }
        }
    }

    private void line(String line) {
        if (line.startsWith("edges ")) {
            edges(line.substring("edges ".length()));
            return;
        }
        int sign = line.lastIndexOf(" = ");
        if (sign < 0) {
            throw new IllegalArgumentException(line);
        }
        String told = line.substring(0, sign).strip();
        int want = answer(line.substring(sign + 3).strip());
        if (told.startsWith("text ")) {
            for (char letter : told.substring(told.indexOf('\'') + 1, told.lastIndexOf('\'')).toCharArray()) {
                ask("type " + (int) letter);
            }
            told = "read";
        }
        Due.due(name + ": " + line, ask(told), want);
    }

    private int ask(String call) {
        int got = call(real, call);
        if (got >= 0) {
            done.add(call);
        } else {
            refused(call);
        }
        return got;
    }

    private void refused(String call) {
        List<String> with = new ArrayList<>(done);
        with.add(call);
        if (call.equals("read")) {
            emptyTape();
        }
        Due.same(name + ": all behind a refused " + call, seen(with), seen(done));
    }

    private void emptyTape() {
        int last = done.lastIndexOf("read");
        for (int i = done.size() - 1; i > last; i--) {
            if (done.get(i).startsWith("type ")) {
                done.remove(i);
            }
        }
    }

    private void edges(String told) {
        String call = told.substring(0, told.indexOf(':')).strip();
        String[] range = told.substring(told.indexOf(':') + 1).split("\\.\\.");
        long first = Long.parseLong(range[0].strip());
        long last = Long.parseLong(range[1].strip());
        for (long inside : new long[] {first, last}) {
            String asked = call.replace("#", Long.toString(inside));
            Due.due(name + ": " + asked + " is BAD", call(after(done), asked) == NAMES.get("BAD") ? 1 : 0, 0);
        }
        for (long outside : new long[] {first - 1, last + 1, Integer.MIN_VALUE, Integer.MAX_VALUE}) {
            boolean isNumber = outside >= Integer.MIN_VALUE && outside <= Integer.MAX_VALUE;
            if (isNumber && (outside < first || outside > last)) {
                String asked = call.replace("#", Long.toString(outside));
                Due.due(name + ": " + asked, ask(asked), NAMES.get("BAD"));
            }
        }
    }

    static int answer(String told) {
        return NAMES.containsKey(told) ? NAMES.get(told) : Integer.parseInt(told);
    }

    private static SundayMarket after(List<String> calls) {
        SundayMarket x = new SundayMarket();
        for (String call : calls) {
            call(x, call);
        }
        return x;
    }

    /** All that can be seen of objects behind these calls; each look takes a new one, since looking changes it. */
    private static String seen(List<String> calls) {
        if (calls.size() + MOST_LOOKS > MOST_CALLS) {
            throw new IllegalArgumentException("too many calls to look behind them");
        }
        StringBuilder out = new StringBuilder(Due.view(after(calls)));
        past(after(calls), out.append(" || past"));
        SundayMarket back = after(calls);
        out.append(" || image ").append(back.restore()).append(' ').append(Due.view(back));
        SundayMarket backAgain = after(calls);
        backAgain.restore();
        past(backAgain, out.append(" || its past"));
        SundayMarket taped = after(calls);
        out.append(" || tape ").append(taped.type(' ')).append(' ').append(taped.read());
        out.append(' ').append(Due.view(taped));
        sheets(after(calls), out.append(" || sheets"));
        return out.toString();
    }

    private static void past(SundayMarket x, StringBuilder out) {
        for (int left = x.undo(); left >= 0; left = x.undo()) {
            out.append(" | ").append(left).append(' ').append(x.count(2)).append(' ').append(x.count(3));
            for (int one = 0; one < x.count(0); one++) {
                out.append(' ').append(x.of(one, 2)).append(' ').append(x.of(one, 3)).append(' ').append(x.of(one, 4));
            }
            int draw = x.seed(0);
            x.seed(draw);
            out.append(' ').append(draw);
        }
    }

    /** An item is seen by the kinds that it tells of: 6, 10, 0 and anything else differ. */
    private static void sheets(SundayMarket x, StringBuilder out) {
        x.read();
        Due.tell(x, "......;p9");
        for (int sheet = 0; sheet < 4; sheet++) {
            for (int lane = 0; lane < 4; lane++) {
                out.append(lane == 0 ? " |" : "").append(' ').append(x.told(0, sheet, lane, 0, 1, 0));
                int kinds = x.told(0, sheet, lane, 1, 1, 0);
                for (int i = 2; kinds >= 0; i++) {
                    out.append(' ').append(kinds);
                    kinds = x.told(0, sheet, lane, i, 1, 0);
                }
            }
            out.append(' ').append(x.drop(sheet));
        }
    }

    static int call(SundayMarket x, String told) {
        String[] words = told.split(" +");
        for (Method method : SundayMarket.class.getMethods()) {
            if (method.getName().equals(words[0]) && method.getParameterCount() == words.length - 1) {
                return call(x, method, words);
            }
        }
        throw new IllegalArgumentException(told);
    }

    private static int call(SundayMarket x, Method method, String[] words) {
        Object[] arguments = new Object[words.length - 1];
        for (int i = 0; i < arguments.length; i++) {
            boolean isLong = method.getParameterTypes()[i] == long.class;
            long value = Long.parseLong(words[i + 1]);
            arguments[i] = isLong ? (Object) value : (Object) Math.toIntExact(value);
        }
        try {
            return (int) method.invoke(x, arguments);
        } catch (InvocationTargetException e) {
            Due.same(String.join(" ", words), "a throw of " + e.getCause(), "no throw");
            return Integer.MIN_VALUE;
        } catch (IllegalAccessException e) {
            throw new IllegalArgumentException(method.getName(), e);
        }
    }
}
