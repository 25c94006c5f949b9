/** A market in Sundays: halves of days of rest that are sold, seized, undone and foretold. */
public final class SundayMarket {
    public static final int BAD = -1, NOT = -2, FULL = -3, NONE = -4, NULL = -11, CAST = -12, INDEX = -13, SIZE = -14;

    private static final int SUNDAYS = 6;
    private static final int ALL_SUNDAYS = (1 << SUNDAYS) - 1;
    private static final int HALVES = 2 * SUNDAYS;
    private static final int ALL_HALVES = (1 << HALVES) - 1;
    private static final int MOST_PEOPLE = 6;
    private static final int FARMER = 1, OLD = 2, LOVER = 3, RINGER = 4, KINDS = 5;
    private static final int FIRST_CHALK = 50;
    private static final int MOST_CHALK = 99;
    private static final int MOST_DRIFT = 40;
    private static final int LOWEST_31_BITS = 0x7fffffff;
    private static final int MOST_MORE = 4;
    private static final int MOST_PRICE = 20;
    private static final int MOST_WORTH_ASKED = 300;
    private static final int MOST_UNDONE = 8;
    private static final int GAIN_OFFSET = 1000;
    /** Each sale of a market adds to the worth of all, which stays far below this. */
    private static final int MOST_SALES = 100000;
    private static final int MOST_LETTERS = 100;
    private static final int FIRST_FAULT = -20;
    private static final int THE_END = -1;
    private static final int SHEETS = 4;
    private static final int MOST_ITEMS = 24;
    private static final int NO_LANE = -1, BYTES = 0, SHORTS = 1, INTS = 2, LONGS = 3;

    private final Town now = new Town();
    private final Past past = new Past();
    private final Town kept = new Town();
    private final Past keptPast = new Past();
    private boolean isKept = false;
    /** A town to try things in, so that what is refused or foretold leaves the real one alone. */
    private final Town trial = new Town();
    private final Tape tape = new Tape();
    private final Sheet[] sheets = new Sheet[SHEETS];

    public SundayMarket() {
        for (int i = 0; i < SHEETS; i++) {
            sheets[i] = new Sheet();
        }
    }

    // ---- 1 people, sundays

    public int person(int kind) {
        if (!isWithin(kind, 0, KINDS - 1)) {
            return BAD;
        }
        if (now.people >= MOST_PEOPLE) {
            return FULL;
        }
        past.forget();
        return now.settle(kind, FIRST_CHALK);
    }

    public int love(int person, int other) {
        if (!now.isOne(person) || !now.isOne(other)) {
            return BAD;
        }
        int before = now.loves[person];
        now.loves[person] = other;
        return before;
    }

    public int least(int v) {
        if (!isWithin(v, 0, HALVES)) {
            return BAD;
        }
        int before = now.fewest;
        now.fewest = v;
        return before;
    }

    public int of(int person, int what) {
        if (!now.isOne(person)) {
            return BAD;
        }
        switch (what) {
            case 0: return now.kinds[person];
            case 1: return now.loves[person];
            case 2: return now.goods.chalk[person];
            case 3: return now.goods.sets[person];
            case 4: return now.goods.manyInAll(person);
            case 5: return now.worthOf(person);
            default: return BAD;
        }
    }

    public int has(int person, int half, int what) {
        if (!now.isOne(person) || !isHalf(half) || !isFlag(what)) {
            return BAD;
        }
        return what == 0 ? now.goods.manyOf(person, half) : now.worthOfHalf(person, half);
    }

    public int at(int sunday, int what) {
        if (!isSunday(sunday) || !isFlag(what)) {
            return BAD;
        }
        return isIn(what == 0 ? now.goods.wet : now.goods.harvest, sunday) ? 1 : 0;
    }

    public int type(int letter) {
        if (!isWithin(letter, 32, 126)) {
            return BAD;
        }
        if (tape.length >= MOST_LETTERS) {
            return FULL;
        }
        return tape.put((char) letter);
    }

    public int read() {
        trial.copyTown(now);
        boolean isWell = tape.tell(trial);
        int end = tape.place;
        tape.wipe();
        if (!isWell) {
            return FIRST_FAULT - end;
        }
        now.copyTown(trial);
        past.forget();
        return now.people;
    }

    public int count(int what) {
        switch (what) {
            case 0: return now.people;
            case 1: return now.fewest;
            case 2: return now.goods.wet;
            case 3: return now.goods.harvest;
            case 4: return now.worthOfAll();
            case 5: return now.chalkOfAll();
            case 6: return past.known;
            default: return BAD;
        }
    }

    // ---- what is done

    public int sell(int person, int other, int half, int chalk) {
        if (!now.areTwo(person, other) || !isHalf(half) || !isWithin(chalk, 0, MOST_CHALK)) {
            return BAD;
        }
        if (!now.maySell(person, other, half, chalk)) {
            return NOT;
        }
        past.remember(now.goods);
        now.goods.move(person, other, half);
        now.goods.pay(other, person, chalk);
        return now.goods.chalk[person];
    }

    public int seize(int person, int other) {
        if (!now.areTwo(person, other)) {
            return BAD;
        }
        int half = now.dearestHalf(person);
        if (half == NONE) {
            return NOT;
        }
        past.remember(now.goods);
        now.goods.move(person, other, half);
        return half;
    }

    public int give(int person, int other, int n) {
        if (!now.areTwo(person, other) || !isWithin(n, 1, MOST_CHALK)) {
            return BAD;
        }
        if (now.goods.chalk[person] < n) {
            return NOT;
        }
        past.remember(now.goods);
        now.goods.pay(person, other, n);
        return now.goods.chalk[person];
    }

    public int make(int sunday, int what, int is) {
        if (!isSunday(sunday) || !isFlag(what) || !isFlag(is)) {
            return BAD;
        }
        Goods goods = now.goods;
        int before = what == 0 ? goods.wet : goods.harvest;
        if (isIn(before, sunday) == (is == 1)) {
            return NOT;
        }
        past.remember(goods);
        int then = before ^ (1 << sunday);
        if (what == 0) {
            goods.wet = then;
        } else {
            goods.harvest = then;
        }
        return then;
    }

    public int drift(int n) {
        if (!isWithin(n, 1, MOST_DRIFT)) {
            return BAD;
        }
        for (int i = 0; i < n; i++) {
            past.remember(now.goods);
            now.driftOnce();
        }
        return now.worthOfAll();
    }

    public int undo() {
        if (past.known == 0) {
            return NONE;
        }
        past.bringBack(now.goods);
        return past.known;
    }

    public int seed(int v) {
        if (v < 0) {
            return BAD;
        }
        int before = now.goods.draw;
        now.goods.draw = v;
        return before;
    }

    // ---- 2 foretold

    public int gain(int person, int other, int half) {
        if (!now.areTwo(person, other) || !isHalf(half)) {
            return BAD;
        }
        if (now.goods.manyOf(person, half) == 0) {
            return NOT;
        }
        return GAIN_OFFSET + now.gainOfSale(person, other, half);
    }

    public int middle(int person, int other, int half) {
        if (!now.areTwo(person, other) || !isHalf(half)) {
            return BAD;
        }
        if (now.goods.manyOf(person, half) == 0) {
            return NOT;
        }
        return now.middleOfSale(person, other, half);
    }

    public int best(int what) {
        if (!isFlag(what)) {
            return BAD;
        }
        int sale = now.bestSale();
        if (sale == NONE || what == 0) {
            return sale;
        }
        return now.gainOfSale(sellerOf(sale), buyerOf(sale), halfOf(sale));
    }

    public int market(int what) {
        if (!isFlag(what)) {
            return BAD;
        }
        trial.copyTown(now);
        int sales = 0;
        int sale = trial.bestSale();
        while (sale != NONE && sales < MOST_SALES) {
            trial.goods.move(sellerOf(sale), buyerOf(sale), halfOf(sale));
            sales++;
            sale = trial.bestSale();
        }
        return what == 0 ? sales : trial.worthOfAll();
    }

    public int longest(int person, int what) {
        if (!now.isOne(person) || !isFlag(what)) {
            return BAD;
        }
        int set = now.goods.sets[person];
        int most = 0;
        int first = NONE;
        for (int half = 0; half < HALVES; half++) {
            int length = lengthFrom(set, half);
            if (length > most) {
                most = length;
                first = half;
            }
        }
        return what == 0 ? most : first;
    }

    public int stretch(int person, int n, int what) {
        if (!now.isOne(person) || !isWithin(n, 1, HALVES) || !isFlag(what)) {
            return BAD;
        }
        int lacking = ALL_HALVES & ~now.goods.sets[person];
        int row = (1 << n) - 1;
        int fewest = HALVES + 1;
        int first = 0;
        for (int half = 0; half + n <= HALVES; half++) {
            int missing = Integer.bitCount(lacking & (row << half));
            if (missing < fewest) {
                fewest = missing;
                first = half;
            }
        }
        return what == 0 ? fewest : first;
    }

    public int more(int person, int k, int c, int what) {
        if (!now.isOne(person) || !isWithin(k, 0, MOST_MORE) || !isWithin(c, 0, MOST_PRICE) || !isFlag(what)) {
            return BAD;
        }
        int own = now.goods.sets[person];
        int most = now.worthOf(person);
        int which = 0;
        for (int set = 1; set <= ALL_HALVES; set++) {
            int n = Integer.bitCount(set);
            if (n > k || (set & own) != 0) {
                continue;
            }
            int much = now.worthOfSet(person, own | set) - n * c;
            if (much > most) {
                most = much;
                which = set;
            }
        }
        return what == 0 ? most : which;
    }

    public int envy(int person, int what) {
        if (!now.isOne(person) || !isFlag(what)) {
            return BAD;
        }
        int most = now.worthOf(person);
        int whom = NONE;
        for (int other = 0; other < now.people; other++) {
            int much = now.worthOfSet(person, now.goods.sets[other]);
            if (much > most) {
                most = much;
                whom = other;
            }
        }
        return whom == NONE || what == 0 ? whom : most;
    }

    public int both(int person, int other) {
        if (!now.isOne(person) || !now.isOne(other)) {
            return BAD;
        }
        return now.goods.sets[person] & now.goods.sets[other];
    }

    public int hands(int half) {
        if (!isHalf(half)) {
            return BAD;
        }
        int set = 0;
        for (int one = 0; one < now.people; one++) {
            if (!isIn(now.goods.sets[one], half)) {
                set |= 1 << one;
            }
        }
        return set;
    }

    public int rain(int person, int u, int c, int what) {
        if (!now.isOne(person) || !isWithin(u, 0, MOST_WORTH_ASKED) || !isWithin(c, 0, 10) || !isFlag(what)) {
            return BAD;
        }
        int above = now.weightOfRain(person, u, c);
        int below = power(10, Integer.bitCount(ALL_SUNDAYS & ~now.goods.wet));
        int shared = Math.max(1, greatestDivisor(below, above));
        return (what == 0 ? above : below) / shared;
    }

    public int image() {
        kept.copyTown(now);
        keptPast.copyPast(past);
        isKept = true;
        return 1;
    }

    public int restore() {
        if (!isKept) {
            return NONE;
        }
        now.copyTown(kept);
        past.copyPast(keptPast);
        return 1;
    }

    // ---- 3 sheets

    public int told(int person, int sheet, int lane, int i, int n, int what) {
        if (!now.isOne(person) || !isSheet(sheet) || !isLane(lane) || !isWithin(n, 1, HALVES) || !isFlag(what)) {
            return BAD;
        }
        Sheet row = sheets[sheet];
        int trouble = row.troubleOf(lane, i, n);
        if (trouble != 0) {
            return trouble;
        }
        return what == 0 ? kindsTold(person, row, i, n) : lovesTold(person, row, i, n);
    }

    public int film(int person, int n, int sheet, int lane, int i) {
        if (!now.isOne(person) || !isWithin(n, 1, HALVES) || !isSheet(sheet) || !isLane(lane)) {
            return BAD;
        }
        int trouble = sheets[sheet].troubleOf(lane, i, n);
        if (trouble != 0) {
            return trouble;
        }
        for (int half = 0; half < n; half++) {
            sheets[sheet].put(i + half, now.worthOfHalf(person, half));
        }
        return n;
    }

    public int sheet(int sheet, int lane, int n) {
        if (!isSheet(sheet) || !isLane(lane) || n > MOST_ITEMS) {
            return BAD;
        }
        if (n < 0) {
            return SIZE;
        }
        sheets[sheet].begin(lane, n);
        return n;
    }

    public int drop(int sheet) {
        if (!isSheet(sheet)) {
            return BAD;
        }
        if (sheets[sheet].lane == NO_LANE) {
            return NULL;
        }
        int before = sheets[sheet].size;
        sheets[sheet].begin(NO_LANE, 0);
        return before;
    }

    public int item(int sheet, int lane, int i, long v) {
        if (!isSheet(sheet) || !isLane(lane)) {
            return BAD;
        }
        int trouble = sheets[sheet].troubleOf(lane, i, 1);
        if (trouble != 0) {
            return trouble;
        }
        sheets[sheet].put(i, v);
        return 1;
    }

    public int copy(int from, int i, int to, int j, int n) {
        if (!isSheet(from) || !isSheet(to)) {
            return BAD;
        }
        Sheet source = sheets[from];
        Sheet target = sheets[to];
        if (source.lane == NO_LANE || target.lane == NO_LANE) {
            return NULL;
        }
        if (source.lane != target.lane) {
            return CAST;
        }
        if (!source.hasRoom(i, n) || !target.hasRoom(j, n)) {
            return INDEX;
        }
        System.arraycopy(source.items, i, target.items, j, n);
        return n;
    }

    // ---- what a row tells

    private int kindsTold(int person, Sheet row, int i, int n) {
        int loved = now.lovedSet(person, now.loves[person]);
        int set = 0;
        for (int kind = 0; kind < KINDS; kind++) {
            if (isAsTold(person, kind, loved, row, i, n)) {
                set |= 1 << kind;
            }
        }
        return set;
    }

    private int lovesTold(int person, Sheet row, int i, int n) {
        int set = 0;
        for (int other = 0; other < now.people; other++) {
            if (isAsTold(person, now.kinds[person], now.lovedSet(person, other), row, i, n)) {
                set |= 1 << other;
            }
        }
        return set;
    }

    private boolean isAsTold(int person, int kind, int loved, Sheet row, int i, int n) {
        Goods goods = now.goods;
        for (int half = 0; half < n; half++) {
            int worth = worthByKind(kind, half, goods.sets[person], loved, goods.wet, goods.harvest);
            if (row.items[i + half] != worth) {
                return false;
            }
        }
        return true;
    }

    // ---- plain numbers and sets

    private static boolean isWithin(int n, int from, int to) {
        return n >= from && n <= to;
    }

    private static boolean isFlag(int n) {
        return n == 0 || n == 1;
    }

    private static boolean isSunday(int n) {
        return isWithin(n, 0, SUNDAYS - 1);
    }

    private static boolean isHalf(int n) {
        return isWithin(n, 0, HALVES - 1);
    }

    private static boolean isSheet(int n) {
        return isWithin(n, 0, SHEETS - 1);
    }

    private static boolean isLane(int n) {
        return isWithin(n, BYTES, LONGS);
    }

    private static boolean isIn(int set, int n) {
        return ((set >> n) & 1) != 0;
    }

    private static int lengthFrom(int set, int half) {
        int length = 0;
        while (half + length < HALVES && isIn(set, half + length)) {
            length++;
        }
        return length;
    }

    private static int power(int base, int exponent) {
        int product = 1;
        for (int i = 0; i < exponent; i++) {
            product *= base;
        }
        return product;
    }

    private static int greatestDivisor(int a, int b) {
        // Below a million Euclid's way ends within thirty rounds.
        for (int round = 0; round < 64 && b != 0; round++) {
            int rest = a % b;
            a = b;
            b = rest;
        }
        return a;
    }

    private static int saleOf(int seller, int buyer, int half) {
        return 1000 * seller + 100 * buyer + half;
    }

    private static int sellerOf(int sale) {
        return sale / 1000;
    }

    private static int buyerOf(int sale) {
        return sale / 100 % 10;
    }

    private static int halfOf(int sale) {
        return sale % 100;
    }

    /** What a half is worth to one of a kind who has the halves of a set, and loves one who has those of another. */
    private static int worthByKind(int kind, int half, int set, int loved, int wet, int harvest) {
        if (!isIn(set, half)) {
            return 0;
        }
        boolean isMorning = half % 2 == 0;
        if (kind == RINGER && isMorning) {
            return 0;
        }
        int sunday = half / 2;
        int worth = isIn(wet, sunday) ? 3 : 6;
        if ((kind == FARMER || kind == LOVER) && isIn(harvest, sunday)) {
            worth += 9;
        }
        if ((kind == OLD || kind == RINGER) && isIn(set, half ^ 1)) {
            worth += 4;
        }
        if (kind == LOVER && isIn(loved, half)) {
            worth += 5;
        }
        return worth;
    }

    /** All that comes back when a deed is undone. */
    private static final class Goods {
        final int[] many = new int[MOST_PEOPLE * HALVES];
        /** Which halves each one has: kept beside how many, since every worth asks for it. */
        final int[] sets = new int[MOST_PEOPLE];
        final int[] chalk = new int[MOST_PEOPLE];
        int wet = 0;
        int harvest = 0;
        int draw = 1;

        void copyGoods(Goods other) {
            System.arraycopy(other.many, 0, many, 0, MOST_PEOPLE * HALVES);
            System.arraycopy(other.sets, 0, sets, 0, MOST_PEOPLE);
            System.arraycopy(other.chalk, 0, chalk, 0, MOST_PEOPLE);
            wet = other.wet;
            harvest = other.harvest;
            draw = other.draw;
        }

        int manyOf(int one, int half) {
            return many[one * HALVES + half];
        }

        int manyInAll(int one) {
            int sum = 0;
            for (int half = 0; half < HALVES; half++) {
                sum += manyOf(one, half);
            }
            return sum;
        }

        void setMany(int one, int half, int n) {
            many[one * HALVES + half] = n;
            int bit = 1 << half;
            sets[one] = n > 0 ? sets[one] | bit : sets[one] & ~bit;
        }

        void move(int from, int to, int half) {
            setMany(from, half, manyOf(from, half) - 1);
            setMany(to, half, manyOf(to, half) + 1);
        }

        void pay(int from, int to, int n) {
            chalk[from] -= n;
            chalk[to] += n;
        }
    }

    /** The goods as they were ahead of the latest deeds, the oldest first. */
    private static final class Past {
        final Goods[] rows = new Goods[MOST_UNDONE];
        int known = 0;

        Past() {
            for (int i = 0; i < MOST_UNDONE; i++) {
                rows[i] = new Goods();
            }
        }

        void copyPast(Past other) {
            known = other.known;
            for (int i = 0; i < known; i++) {
                rows[i].copyGoods(other.rows[i]);
            }
        }

        void forget() {
            known = 0;
        }

        void remember(Goods goods) {
            if (known == MOST_UNDONE) {
                loseOldest();
            }
            rows[known].copyGoods(goods);
            known++;
        }

        void loseOldest() {
            Goods oldest = rows[0];
            for (int i = 1; i < MOST_UNDONE; i++) {
                rows[i - 1] = rows[i];
            }
            rows[MOST_UNDONE - 1] = oldest;
            known = MOST_UNDONE - 1;
        }

        void bringBack(Goods goods) {
            if (known > 0) {
                known--;
                goods.copyGoods(rows[known]);
            }
        }
    }

    /** The people with their goods: what these are worth to them, and what sales may be. */
    private static final class Town {
        int people = 0;
        int fewest = 2;
        final int[] kinds = new int[MOST_PEOPLE];
        final int[] loves = new int[MOST_PEOPLE];
        final Goods goods = new Goods();

        void copyTown(Town other) {
            people = other.people;
            fewest = other.fewest;
            System.arraycopy(other.kinds, 0, kinds, 0, MOST_PEOPLE);
            System.arraycopy(other.loves, 0, loves, 0, MOST_PEOPLE);
            goods.copyGoods(other.goods);
        }

        boolean isOne(int n) {
            return n >= 0 && n < people;
        }

        boolean areTwo(int one, int other) {
            return isOne(one) && isOne(other) && one != other;
        }

        int settle(int kind, int chalk) {
            if (people >= MOST_PEOPLE) {
                return FULL;
            }
            int one = people;
            people++;
            kinds[one] = kind;
            loves[one] = one;
            goods.chalk[one] = chalk;
            for (int half = 0; half < HALVES; half++) {
                goods.setMany(one, half, 1);
            }
            return one;
        }

        /** The halves of whom one would love; who loves itself loves nobody. */
        int lovedSet(int one, int loved) {
            return loved == one ? 0 : goods.sets[loved];
        }

        int worthOfHalf(int one, int half) {
            int loved = lovedSet(one, loves[one]);
            return worthByKind(kinds[one], half, goods.sets[one], loved, goods.wet, goods.harvest);
        }

        int worthOf(int one) {
            return worthInRain(one, goods.sets[one], goods.wet);
        }

        int worthOfSet(int one, int set) {
            return worthInRain(one, set, goods.wet);
        }

        int worthInRain(int one, int set, int wet) {
            int loved = lovedSet(one, loves[one]);
            int sum = 0;
            for (int half = 0; half < HALVES; half++) {
                sum += worthByKind(kinds[one], half, set, loved, wet, goods.harvest);
            }
            return sum;
        }

        int worthOfAll() {
            int sum = 0;
            for (int one = 0; one < people; one++) {
                sum += worthOf(one);
            }
            return sum;
        }

        int worthOfAllOn(int sunday) {
            int sum = 0;
            for (int one = 0; one < people; one++) {
                sum += worthOfHalf(one, 2 * sunday) + worthOfHalf(one, 2 * sunday + 1);
            }
            return sum;
        }

        int chalkOfAll() {
            int sum = 0;
            for (int one = 0; one < people; one++) {
                sum += goods.chalk[one];
            }
            return sum;
        }

        int dearestHalf(int one) {
            int dearest = NONE;
            int most = -1;
            for (int half = 0; half < HALVES; half++) {
                if (goods.manyOf(one, half) > 0 && worthOfHalf(one, half) > most) {
                    most = worthOfHalf(one, half);
                    dearest = half;
                }
            }
            return dearest;
        }

        boolean maySell(int one, int other, int half, int chalk) {
            int many = goods.manyOf(one, half);
            boolean canSpareIt = many > 1 || Integer.bitCount(goods.sets[one]) > fewest;
            return many > 0 && canSpareIt && goods.chalk[other] >= chalk;
        }

        /** A half touches nothing beyond its Sunday, so the others need not be added up. */
        int gainOfSale(int one, int other, int half) {
            int before = worthOfAllOn(half / 2);
            goods.move(one, other, half);
            int after = worthOfAllOn(half / 2);
            goods.move(other, one, half);
            return after - before;
        }

        int middleOfSale(int one, int other, int half) {
            int sellerBefore = worthOf(one);
            int buyerBefore = worthOf(other);
            goods.move(one, other, half);
            int lost = sellerBefore - worthOf(one);
            int won = worthOf(other) - buyerBefore;
            goods.move(other, one, half);
            return Math.max(0, (lost + won) / 2);
        }

        int bestSale() {
            int sale = NONE;
            int most = 0;
            for (int one = 0; one < people; one++) {
                for (int other = 0; other < people; other++) {
                    for (int half = 0; half < HALVES; half++) {
                        int gained = mightGain(one, other, half) ? gainOfSale(one, other, half) : 0;
                        if (gained > most) {
                            most = gained;
                            sale = saleOf(one, other, half);
                        }
                    }
                }
            }
            return sale;
        }

        /** Nobody's worth grows by what is lost, nor by several of what one has: only a new half can gain. */
        boolean mightGain(int one, int other, int half) {
            return one != other && !isIn(goods.sets[other], half) && maySell(one, other, half, 0);
        }

        void driftOnce() {
            goods.draw = (goods.draw * 1103515245 + 12345) & LOWEST_31_BITS;
            if (people == 0) {
                return;
            }
            int one = goods.draw / 65536 % people;
            int other = goods.draw / 1024 % people;
            int half = goods.draw / 128 % HALVES;
            if (one == other || goods.manyOf(one, half) == 0) {
                return;
            }
            int price = middleOfSale(one, other, half);
            if (maySell(one, other, half, price)) {
                goods.move(one, other, half);
                goods.pay(other, one, price);
            }
        }

        /** Of ten to the number of dry Sundays, how many cases leave one a worth of u or more. */
        int weightOfRain(int one, int u, int c) {
            int dry = ALL_SUNDAYS & ~goods.wet;
            int sum = 0;
            for (int fallen = 0; fallen <= ALL_SUNDAYS; fallen++) {
                boolean isPossible = (fallen & ~dry) == 0;
                if (isPossible && worthInRain(one, goods.sets[one], goods.wet | fallen) >= u) {
                    int spared = dry & ~fallen;
                    sum += power(c, Integer.bitCount(fallen)) * power(10 - c, Integer.bitCount(spared));
                }
            }
            return sum;
        }
    }

    /** The letters typed, and how far they have been read: where a reading stops short is its fault's place. */
    private static final class Tape {
        final char[] letters = new char[MOST_LETTERS];
        int length = 0;
        int place = 0;

        int put(char letter) {
            if (length < MOST_LETTERS) {
                letters[length] = letter;
                length++;
            }
            return length;
        }

        void wipe() {
            length = 0;
            place = 0;
        }

        /** Reads a market into a town; false, if a letter can't stand where it does. */
        boolean tell(Town town) {
            place = 0;
            town.people = 0;
            return tellSundays(town.goods) && takes(';') && tellPeople(town) && lovesAreThere(town);
        }

        boolean tellSundays(Goods goods) {
            goods.wet = 0;
            goods.harvest = 0;
            for (int sunday = 0; sunday < SUNDAYS; sunday++) {
                int sign = takeOneOf(".whb");
                if (sign < 0) {
                    return false;
                }
                goods.wet |= (sign & 1) << sunday;
                goods.harvest |= (sign >> 1) << sunday;
            }
            return true;
        }

        boolean tellPeople(Town town) {
            for (int one = 0; one < MOST_PEOPLE; one++) {
                if (one > 0 && !takes(',')) {
                    break;
                }
                if (!tellOne(town)) {
                    return false;
                }
            }
            return next() == THE_END;
        }

        boolean tellOne(Town town) {
            int kind = takeOneOf("pfolr");
            if (kind < 0) {
                return false;
            }
            int chalk = takeNumber();
            if (chalk < 0) {
                return false;
            }
            int one = town.settle(kind, chalk);
            if (one < 0) {
                return false;
            }
            if (takes('>')) {
                int loved = takeOneOf("012345");
                if (loved < 0) {
                    return false;
                }
                town.loves[one] = loved;
            }
            return (!takes('-') || tellHalves(town.goods, one, -1)) && (!takes('+') || tellHalves(town.goods, one, 1));
        }

        boolean tellHalves(Goods goods, int one, int by) {
            int latest = -1;
            for (int i = 0; i < HALVES; i++) {
                int half = next() - 'a';
                if (half <= latest || half >= HALVES) {
                    break;
                }
                place++;
                latest = half;
                goods.setMany(one, half, goods.manyOf(one, half) + by);
            }
            return latest >= 0;
        }

        boolean lovesAreThere(Town town) {
            for (int one = 0; one < town.people; one++) {
                if (town.loves[one] >= town.people) {
                    return false;
                }
            }
            return true;
        }

        /** The next letter behind blanks, which stays; or the end. */
        int next() {
            while (place < length && letters[place] == ' ') {
                place++;
            }
            return place < length ? letters[place] : THE_END;
        }

        boolean takes(char letter) {
            if (next() != letter) {
                return false;
            }
            place++;
            return true;
        }

        int takeOneOf(String signs) {
            int letter = next();
            int which = letter == THE_END ? -1 : signs.indexOf((char) letter);
            if (which >= 0) {
                place++;
            }
            return which;
        }

        int takeNumber() {
            int number = takeOneOf("0123456789");
            // A blank ends a number, so the second digit is looked for right here.
            if (number >= 0 && place < length && letters[place] >= '0' && letters[place] <= '9') {
                number = 10 * number + letters[place] - '0';
                place++;
            }
            return number;
        }
    }

    /** A row of a lane, or nothing; its items are kept as longs cut to the lane's width. */
    private static final class Sheet {
        final long[] items = new long[MOST_ITEMS];
        int lane = NO_LANE;
        int size = 0;

        void begin(int newLane, int n) {
            lane = newLane;
            size = n;
            for (int i = 0; i < MOST_ITEMS; i++) {
                items[i] = 0;
            }
        }

        boolean hasRoom(int i, int n) {
            return i >= 0 && n >= 0 && i <= size - n;
        }

        int troubleOf(int asLane, int i, int n) {
            if (lane == NO_LANE) {
                return NULL;
            }
            if (lane != asLane) {
                return CAST;
            }
            return hasRoom(i, n) ? 0 : INDEX;
        }

        void put(int i, long v) {
            switch (lane) {
                case BYTES: items[i] = (byte) v; break;
                case SHORTS: items[i] = (short) v; break;
                case INTS: items[i] = (int) v; break;
                default: items[i] = v; break;
            }
        }
    }
}
