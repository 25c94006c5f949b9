import java.math.BigInteger;
import java.util.ArrayDeque;
import java.util.ArrayList;
import java.util.Deque;
import java.util.List;
import java.util.TreeSet;

/** The document once more, in its plainest form and by other means, to hold the program's answers against. */
final class Model {
    private static final int BAD = -1, NOT = -2, FULL = -3, NONE = -4, NULL = -11, CAST = -12, INDEX = -13, SIZE = -14;

    static class Plain {
        int worth(State s, One one, TreeSet<Integer> own, int half) {
            return s.wet.contains(half / 2) ? 3 : 6;
        }
    }

    static class Farmer extends Plain {
        @Override
        int worth(State s, One one, TreeSet<Integer> own, int half) {
            return super.worth(s, one, own, half) + (s.harvest.contains(half / 2) ? 9 : 0);
        }
    }

    static class Old extends Plain {
        @Override
        int worth(State s, One one, TreeSet<Integer> own, int half) {
            int otherHalf = half % 2 == 0 ? half + 1 : half - 1;
            return super.worth(s, one, own, half) + (own.contains(otherHalf) ? 4 : 0);
        }
    }

    static class Lover extends Farmer {
        @Override
        int worth(State s, One one, TreeSet<Integer> own, int half) {
            boolean together = one.loves != one.number && s.people.get(one.loves).halves().contains(half);
            return super.worth(s, one, own, half) + (together ? 5 : 0);
        }
    }

    static class Ringer extends Old {
        @Override
        int worth(State s, One one, TreeSet<Integer> own, int half) {
            return half % 2 == 0 ? 0 : super.worth(s, one, own, half);
        }
    }

    private static final Plain[] KINDS = {new Plain(), new Farmer(), new Old(), new Lover(), new Ringer()};

    static final class One {
        int number;
        int kind;
        int loves;
        int chalk;
        List<Integer> has = new ArrayList<>();

        One twin() {
            One twin = new One();
            twin.number = number;
            twin.kind = kind;
            twin.loves = loves;
            twin.chalk = chalk;
            twin.has = new ArrayList<>(has);
            return twin;
        }

        TreeSet<Integer> halves() {
            return new TreeSet<>(has);
        }

        int many(int half) {
            return (int) has.stream().filter(h -> h == half).count();
        }
    }

    static final class State {
        List<One> people = new ArrayList<>();
        TreeSet<Integer> wet = new TreeSet<>();
        TreeSet<Integer> harvest = new TreeSet<>();
        int least = 2;
        long draw = 1;
        Deque<State> past = new ArrayDeque<>();

        State twin(boolean withPast) {
            State twin = new State();
            for (One one : people) {
                twin.people.add(one.twin());
            }
            twin.wet = new TreeSet<>(wet);
            twin.harvest = new TreeSet<>(harvest);
            twin.least = least;
            twin.draw = draw;
            if (withPast) {
                twin.past = new ArrayDeque<>(past);
            }
            return twin;
        }

        void remember() {
            past.addLast(twin(false));
            if (past.size() > 8) {
                past.removeFirst();
            }
        }

        int worth(One one, TreeSet<Integer> own) {
            int sum = 0;
            for (int half : own) {
                sum += KINDS[one.kind].worth(this, one, own, half);
            }
            return sum;
        }

        int worth(One one) {
            return worth(one, one.halves());
        }

        int worth(One one, int half) {
            return one.halves().contains(half) ? KINDS[one.kind].worth(this, one, one.halves(), half) : 0;
        }

        int worthOfAll() {
            return people.stream().mapToInt(this::worth).sum();
        }

        void move(int from, int to, int half) {
            people.get(from).has.remove(Integer.valueOf(half));
            people.get(to).has.add(half);
        }

        boolean may(int from, int to, int half, int chalk) {
            One one = people.get(from);
            return one.has.contains(half) && (one.halves().size() > least || one.many(half) > 1)
                && people.get(to).chalk >= chalk;
        }

        int gain(int from, int to, int half) {
            State then = twin(false);
            then.move(from, to, half);
            return then.worthOfAll() - worthOfAll();
        }

        int middle(int from, int to, int half) {
            State then = twin(false);
            then.move(from, to, half);
            int less = worth(people.get(from)) - then.worth(then.people.get(from));
            int more = then.worth(then.people.get(to)) - worth(people.get(to));
            return Math.max(0, less + more) / 2;
        }

        int[] best() {
            int[] best = null;
            for (int from = 0; from < people.size(); from++) {
                for (int to = 0; to < people.size(); to++) {
                    for (int half = 0; half < 12; half++) {
                        if (from == to || !may(from, to, half, 0)) {
                            continue;
                        }
                        int gain = gain(from, to, half);
                        if (gain > (best == null ? 0 : best[3])) {
                            best = new int[] {from, to, half, gain};
                        }
                    }
                }
            }
            return best;
        }
    }

    private State s = new State();
    private State kept;
    private String tape = "";
    private final Object[] sheets = new Object[4];

    private static int set(Iterable<Integer> numbers) {
        int set = 0;
        for (int n : numbers) {
            set |= 1 << n;
        }
        return set;
    }

    private boolean one(int n) {
        return n >= 0 && n < s.people.size();
    }

    private static boolean in(int n, int from, int to) {
        return n >= from && n <= to;
    }

    private boolean wrongSale(int person, int other, int half) {
        return !one(person) || !one(other) || person == other || !in(half, 0, 11);
    }

    private One newcomer(int kind, int chalk) {
        One one = new One();
        one.number = s.people.size();
        one.kind = kind;
        one.loves = one.number;
        one.chalk = chalk;
        for (int half = 0; half < 12; half++) {
            one.has.add(half);
        }
        s.people.add(one);
        s.past.clear();
        return one;
    }

    int person(int kind) {
        if (!in(kind, 0, 4)) {
            return BAD;
        }
        return s.people.size() == 6 ? FULL : newcomer(kind, 50).number;
    }

    int love(int person, int other) {
        if (!one(person) || !one(other)) {
            return BAD;
        }
        int was = s.people.get(person).loves;
        s.people.get(person).loves = other;
        return was;
    }

    int least(int v) {
        if (!in(v, 0, 12)) {
            return BAD;
        }
        int was = s.least;
        s.least = v;
        return was;
    }

    int of(int person, int what) {
        if (!one(person) || !in(what, 0, 5)) {
            return BAD;
        }
        One one = s.people.get(person);
        return new int[] {one.kind, one.loves, one.chalk, set(one.has), one.has.size(), s.worth(one)}[what];
    }

    int has(int person, int half, int what) {
        if (!one(person) || !in(half, 0, 11) || !in(what, 0, 1)) {
            return BAD;
        }
        One one = s.people.get(person);
        return what == 0 ? one.many(half) : s.worth(one, half);
    }

    int at(int sunday, int what) {
        if (!in(sunday, 0, 5) || !in(what, 0, 1)) {
            return BAD;
        }
        return (what == 0 ? s.wet : s.harvest).contains(sunday) ? 1 : 0;
    }

    int type(int letter) {
        if (!in(letter, 32, 126)) {
            return BAD;
        }
        if (tape.length() == 100) {
            return FULL;
        }
        tape += (char) letter;
        return tape.length();
    }

    int read() {
        String text = tape;
        tape = "";
        int answer = Grammar.read(text);
        if (answer < 0) {
            return answer;
        }
        String[] parts = text.replace(" ", "").split(";");
        s.people.clear();
        s.wet.clear();
        s.harvest.clear();
        for (int sunday = 0; sunday < 6; sunday++) {
            char sign = parts[0].charAt(sunday);
            if (sign == 'w' || sign == 'b') {
                s.wet.add(sunday);
            }
            if (sign == 'h' || sign == 'b') {
                s.harvest.add(sunday);
            }
        }
        for (String part : parts[1].split(",")) {
            String head = part.split("[>+-]")[0];
            One one = newcomer("pfolr".indexOf(head.charAt(0)), Integer.parseInt(head.substring(1)));
            int sign = 0;
            for (char letter : part.substring(head.length()).toCharArray()) {
                if (letter == '-' || letter == '+') {
                    sign = letter;
                } else if (sign == '-') {
                    one.has.remove(Integer.valueOf(letter - 'a'));
                } else if (sign == '+') {
                    one.has.add(letter - 'a');
                } else if (letter != '>') {
                    one.loves = letter - '0';
                }
            }
        }
        return answer;
    }

    int count(int what) {
        if (!in(what, 0, 6)) {
            return BAD;
        }
        int chalk = s.people.stream().mapToInt(one -> one.chalk).sum();
        int[] all = {s.people.size(), s.least, set(s.wet), set(s.harvest), s.worthOfAll(), chalk, s.past.size()};
        return all[what];
    }

    int sell(int person, int other, int half, int chalk) {
        if (wrongSale(person, other, half) || !in(chalk, 0, 99)) {
            return BAD;
        }
        if (!s.may(person, other, half, chalk)) {
            return NOT;
        }
        s.remember();
        s.move(person, other, half);
        s.people.get(other).chalk -= chalk;
        s.people.get(person).chalk += chalk;
        return s.people.get(person).chalk;
    }

    int seize(int person, int other) {
        if (wrongSale(person, other, 0)) {
            return BAD;
        }
        One one = s.people.get(person);
        int which = NOT;
        for (int half : one.halves()) {
            if (which == NOT || s.worth(one, half) > s.worth(one, which)) {
                which = half;
            }
        }
        if (which != NOT) {
            s.remember();
            s.move(person, other, which);
        }
        return which;
    }

    int give(int person, int other, int n) {
        if (wrongSale(person, other, 0) || !in(n, 1, 99)) {
            return BAD;
        }
        if (s.people.get(person).chalk < n) {
            return NOT;
        }
        s.remember();
        s.people.get(other).chalk += n;
        s.people.get(person).chalk -= n;
        return s.people.get(person).chalk;
    }

    int make(int sunday, int what, int is) {
        if (!in(sunday, 0, 5) || !in(what, 0, 1) || !in(is, 0, 1)) {
            return BAD;
        }
        TreeSet<Integer> sundays = what == 0 ? s.wet : s.harvest;
        if (sundays.contains(sunday) == (is == 1)) {
            return NOT;
        }
        s.remember();
        if (is == 1) {
            sundays.add(sunday);
        } else {
            sundays.remove(sunday);
        }
        return set(sundays);
    }

    int drift(int n) {
        if (!in(n, 1, 40)) {
            return BAD;
        }
        for (int i = 0; i < n; i++) {
            s.remember();
            s.draw = BigInteger.valueOf(s.draw).multiply(BigInteger.valueOf(1103515245)).add(BigInteger.valueOf(12345))
                .mod(BigInteger.ONE.shiftLeft(31)).longValueExact();
            int size = s.people.size();
            if (size > 0) {
                int from = (int) ((s.draw >> 16) % size);
                int to = (int) ((s.draw >> 10) % size);
                int half = (int) ((s.draw >> 7) % 12);
                if (from != to && s.people.get(from).has.contains(half)) {
                    int chalk = s.middle(from, to, half);
                    if (s.may(from, to, half, chalk)) {
                        s.move(from, to, half);
                        s.people.get(to).chalk -= chalk;
                        s.people.get(from).chalk += chalk;
                    }
                }
            }
        }
        return s.worthOfAll();
    }

    int undo() {
        if (s.past.isEmpty()) {
            return NONE;
        }
        State then = s.past.removeLast().twin(false);
        for (One one : then.people) {
            one.loves = s.people.get(one.number).loves;
        }
        then.least = s.least;
        then.past = s.past;
        s = then;
        return s.past.size();
    }

    int seed(int v) {
        if (v < 0) {
            return BAD;
        }
        int was = (int) s.draw;
        s.draw = v;
        return was;
    }

    int gain(int person, int other, int half) {
        if (wrongSale(person, other, half)) {
            return BAD;
        }
        return s.people.get(person).has.contains(half) ? 1000 + s.gain(person, other, half) : NOT;
    }

    int middle(int person, int other, int half) {
        if (wrongSale(person, other, half)) {
            return BAD;
        }
        return s.people.get(person).has.contains(half) ? s.middle(person, other, half) : NOT;
    }

    int best(int what) {
        if (!in(what, 0, 1)) {
            return BAD;
        }
        int[] best = s.best();
        if (best == null) {
            return NONE;
        }
        return what == 0 ? 1000 * best[0] + 100 * best[1] + best[2] : best[3];
    }

    int market(int what) {
        if (!in(what, 0, 1)) {
            return BAD;
        }
        State then = s.twin(false);
        int sales = 0;
        for (int[] best = then.best(); best != null; best = then.best()) {
            then.move(best[0], best[1], best[2]);
            sales++;
        }
        return what == 0 ? sales : then.worthOfAll();
    }

    private static boolean hasAll(TreeSet<Integer> own, int first, int n) {
        for (int half = first; half < first + n; half++) {
            if (!own.contains(half)) {
                return false;
            }
        }
        return true;
    }

    int longest(int person, int what) {
        if (!one(person) || !in(what, 0, 1)) {
            return BAD;
        }
        for (int n = 12; n >= 1; n--) {
            for (int first = 0; first + n <= 12; first++) {
                if (hasAll(s.people.get(person).halves(), first, n)) {
                    return what == 0 ? n : first;
                }
            }
        }
        return what == 0 ? 0 : NONE;
    }

    int stretch(int person, int n, int what) {
        if (!one(person) || !in(n, 1, 12) || !in(what, 0, 1)) {
            return BAD;
        }
        for (int got = 0; got <= n; got++) {
            for (int first = 0; first + n <= 12; first++) {
                TreeSet<Integer> there = new TreeSet<>(s.people.get(person).halves().subSet(first, first + n));
                if (there.size() + got >= n) {
                    return what == 0 ? got : first;
                }
            }
        }
        throw new IllegalStateException();
    }

    int more(int person, int k, int c, int what) {
        if (!one(person) || !in(k, 0, 4) || !in(c, 0, 20) || !in(what, 0, 1)) {
            return BAD;
        }
        int[] best = {Integer.MIN_VALUE, 0};
        choose(s.people.get(person), new TreeSet<>(), 0, k, c, best);
        return best[what];
    }

    private void choose(One one, TreeSet<Integer> chosen, int from, int k, int c, int[] best) {
        TreeSet<Integer> all = one.halves();
        all.addAll(chosen);
        int much = s.worth(one, all) - c * chosen.size();
        if (much > best[0] || much == best[0] && set(chosen) < best[1]) {
            best[0] = much;
            best[1] = set(chosen);
        }
        for (int half = from; half < 12 && k > 0; half++) {
            if (!one.has.contains(half)) {
                chosen.add(half);
                choose(one, chosen, half + 1, k - 1, c, best);
                chosen.remove(half);
            }
        }
    }

    int envy(int person, int what) {
        if (!one(person) || !in(what, 0, 1)) {
            return BAD;
        }
        One one = s.people.get(person);
        One whom = null;
        for (One other : s.people) {
            if (other != one && s.worth(one, other.halves()) > s.worth(one, (whom == null ? one : whom).halves())) {
                whom = other;
            }
        }
        if (whom == null) {
            return NONE;
        }
        return what == 0 ? whom.number : s.worth(one, whom.halves());
    }

    int both(int person, int other) {
        if (!one(person) || !one(other)) {
            return BAD;
        }
        TreeSet<Integer> both = s.people.get(person).halves();
        both.retainAll(s.people.get(other).has);
        return set(both);
    }

    int hands(int half) {
        if (!in(half, 0, 11)) {
            return BAD;
        }
        return set(s.people.stream().filter(one -> !one.has.contains(half)).map(one -> one.number).toList());
    }

    int rain(int person, int u, int c, int what) {
        if (!one(person) || !in(u, 0, 300) || !in(c, 0, 10) || !in(what, 0, 1)) {
            return BAD;
        }
        BigInteger above = BigInteger.valueOf(chance(s.twin(false), person, u, c, 0));
        BigInteger below = BigInteger.TEN.pow(6);
        BigInteger shared = above.gcd(below);
        return (what == 0 ? above : below).divide(shared).intValueExact();
    }

    /** Of a million: a wet Sunday counts for ten cases alike. */
    private long chance(State then, int person, int u, int c, int sunday) {
        if (sunday == 6) {
            return then.worth(then.people.get(person)) >= u ? 1 : 0;
        }
        if (then.wet.contains(sunday)) {
            return 10 * chance(then, person, u, c, sunday + 1);
        }
        long dry = chance(then, person, u, c, sunday + 1);
        then.wet.add(sunday);
        long wet = chance(then, person, u, c, sunday + 1);
        then.wet.remove(sunday);
        return c * wet + (10 - c) * dry;
    }

    int image() {
        kept = s.twin(true);
        return 1;
    }

    int restore() {
        if (kept == null) {
            return NONE;
        }
        s = kept.twin(true);
        return 1;
    }

    private static Object row(int lane, int n) {
        switch (lane) {
            case 0: return new byte[n];
            case 1: return new short[n];
            case 2: return new int[n];
            default: return new long[n];
        }
    }

    private long get(int sheet, int lane, int i) {
        switch (lane) {
            case 0: return ((byte[]) sheets[sheet])[i];
            case 1: return ((short[]) sheets[sheet])[i];
            case 2: return ((int[]) sheets[sheet])[i];
            default: return ((long[]) sheets[sheet])[i];
        }
    }

    private void put(int sheet, int lane, int i, long v) {
        switch (lane) {
            case 0: ((byte[]) sheets[sheet])[i] = (byte) v; break;
            case 1: ((short[]) sheets[sheet])[i] = (short) v; break;
            case 2: ((int[]) sheets[sheet])[i] = (int) v; break;
            default: ((long[]) sheets[sheet])[i] = v; break;
        }
    }

    /** What the machine itself finds with n items from i on. */
    private int trouble(int sheet, int lane, int i, int n) {
        try {
            for (int k = 0; k < n; k++) {
                get(sheet, lane, i + k);
            }
            return 0;
        } catch (NullPointerException e) {
            return NULL;
        } catch (ClassCastException e) {
            return CAST;
        } catch (ArrayIndexOutOfBoundsException e) {
            return INDEX;
        }
    }

    int told(int person, int sheet, int lane, int i, int n, int what) {
        if (!one(person) || !in(sheet, 0, 3) || !in(lane, 0, 3) || !in(n, 1, 12) || !in(what, 0, 1)) {
            return BAD;
        }
        int trouble = trouble(sheet, lane, i, n);
        if (trouble != 0) {
            return trouble;
        }
        int set = 0;
        for (int k = 0; k < (what == 0 ? 5 : s.people.size()); k++) {
            State then = s.twin(false);
            One one = then.people.get(person);
            if (what == 0) {
                one.kind = k;
            } else {
                one.loves = k;
            }
            boolean so = true;
            for (int half = 0; half < n; half++) {
                so &= get(sheet, lane, i + half) == then.worth(one, half);
            }
            set += so ? 1 << k : 0;
        }
        return set;
    }

    int film(int person, int n, int sheet, int lane, int i) {
        if (!one(person) || !in(n, 1, 12) || !in(sheet, 0, 3) || !in(lane, 0, 3)) {
            return BAD;
        }
        int trouble = trouble(sheet, lane, i, n);
        if (trouble != 0) {
            return trouble;
        }
        for (int half = 0; half < n; half++) {
            put(sheet, lane, i + half, s.worth(s.people.get(person), half));
        }
        return n;
    }

    int sheet(int sheet, int lane, int n) {
        if (!in(sheet, 0, 3) || !in(lane, 0, 3) || n > 24) {
            return BAD;
        }
        try {
            sheets[sheet] = row(lane, n);
            return n;
        } catch (NegativeArraySizeException e) {
            return SIZE;
        }
    }

    int drop(int sheet) {
        if (!in(sheet, 0, 3)) {
            return BAD;
        }
        if (sheets[sheet] == null) {
            return NULL;
        }
        int size = java.lang.reflect.Array.getLength(sheets[sheet]);
        sheets[sheet] = null;
        return size;
    }

    int item(int sheet, int lane, int i, long v) {
        if (!in(sheet, 0, 3) || !in(lane, 0, 3)) {
            return BAD;
        }
        int trouble = trouble(sheet, lane, i, 1);
        if (trouble != 0) {
            return trouble;
        }
        put(sheet, lane, i, v);
        return 1;
    }

    int copy(int from, int i, int to, int j, int n) {
        if (!in(from, 0, 3) || !in(to, 0, 3)) {
            return BAD;
        }
        try {
            System.arraycopy(sheets[from], i, sheets[to], j, n);
            return n;
        } catch (NullPointerException e) {
            return NULL;
        } catch (ArrayStoreException e) {
            return CAST;
        } catch (IndexOutOfBoundsException e) {
            return INDEX;
        }
    }
}
