import java.util.Arrays;

/**
 * A bench for rounds that touch: circles and lines told by four whole numbers a, b, x, y with
 * x x + y y - a b = 1, the kisses of four of them, their packings, and the fractions below them.
 * All arrays are made by the constructors; no call makes an object.
 */
public final class RoundKiss {
    public static final int NONE = -1;
    public static final int MISSING = -2;
    public static final int BEYOND = -3;
    public static final int BELOW = -4;
    public static final int KIND = -5;
    public static final int COPY = -6;
    public static final int NO = -7;
    public static final int FULL = -8;

    /** What a check answers when there is nothing to refuse. */
    private static final int FINE = 0;

    private static final int GREATEST_NUMBER = 1_000_000_000;
    private static final int MOST_ROUNDS = 20;
    private static final int MOST_KISSES = 6;
    private static final int PLACES = 4;
    private static final int COLUMNS = 4;
    private static final int QUAD_NUMBERS = PLACES * COLUMNS;
    private static final int BENDS_ALONE = 1;
    private static final int TOUCHING = -2;

    private static final int PLAIN = 0;
    private static final int LINE = 1;
    private static final int OVER = 2;
    private static final int TURNED = 3;

    private static final int GREATEST_PART = 999;
    private static final int MOST_WORD_SWAPS = 15;
    private static final int GREATEST_PACKED_BEND = 300;
    private static final int RESTS_MODULUS = 24;

    private static final int FRACTION_BASE = 100;
    private static final int GREATEST_ORDER = 30;
    private static final int MOST_FRACTIONS = 279;

    private final Shelf shelf;
    private final Quad[] kisses;
    private final Quad work;
    private final Quad secondWork;
    private final Packing packing;
    private final FareyRow farey;
    private final Trail trail;
    private final int[] laid;
    private final int[] refusals;
    private int kissesThere;
    private int ledPlaces;
    private boolean isLaid;

    public RoundKiss() {
        shelf = new Shelf();
        kisses = new Quad[MOST_KISSES];
        for (int i = 0; i < MOST_KISSES; i++) {
            kisses[i] = new Quad();
        }
        work = new Quad();
        secondWork = new Quad();
        packing = new Packing();
        farey = new FareyRow();
        trail = new Trail();
        laid = new int[QUAD_NUMBERS];
        refusals = new int[1 - FULL];
    }

    // ---- rounds

    public int round(int a, int b, int x, int y) {
        if (!Numbers.keepLaw(a, b, x, y)) {
            return refuse(NO);
        }
        if (shelf.isFull()) {
            return refuse(FULL);
        }
        return shelf.put(Numbers.kindByBend(a), a, b, x, y);
    }

    public int over(int p, int q) {
        boolean inRange = p >= 0 && p <= GREATEST_PART && q >= 1 && q <= GREATEST_PART;
        if (!inRange || !Numbers.isLowest(p, q)) {
            return refuse(NO);
        }
        if (shelf.isFull()) {
            return refuse(FULL);
        }
        return shelf.putOver(p, q);
    }

    public int drop() {
        return shelf.size == 0 ? refuse(MISSING) : shelf.takeLatest();
    }

    public int look(int round, int what) {
        if (!shelf.has(round)) {
            return refuseByZero(BEYOND);
        }
        if ((what == 5 || what == 6) && shelf.kinds[round] != OVER) {
            return refuseByZero(KIND);
        }
        if (what < 0 || what > 6) {
            return refuseByZero(NO);
        }
        switch (what) {
            case 0:
                return shelf.kinds[round];
            case 5:
                return shelf.tops[round];
            case 6:
                return shelf.bottoms[round];
            default:
                return shelf.number(round, what - 1);
        }
    }

    public long product(int round, int other) {
        if (!shelf.has(round) || !shelf.has(other)) {
            return refuseByZero(BEYOND);
        }
        return shelf.productOf(round, other);
    }

    public int meet(int round, int other) {
        if (!shelf.has(round) || !shelf.has(other)) {
            return refuse(BEYOND);
        }
        return shelf.isAlike(round, other) ? 0 : Numbers.meetingBy(shelf.productOf(round, other));
    }

    public int mirror(int round, int other) {
        if (!shelf.has(round) || !shelf.has(other)) {
            return refuse(BEYOND);
        }
        if (shelf.isFull() || !shelf.mirrorFits(round, other)) {
            return refuse(FULL);
        }
        return shelf.putMirror(round, other);
    }

    public int flip(int round) {
        if (!shelf.has(round)) {
            return refuse(BEYOND);
        }
        if (shelf.isFull()) {
            return refuse(FULL);
        }
        return shelf.putOtherSide(round);
    }

    // ---- kisses

    public int kiss(int rounds) {
        if (rounds < 0 || rounds >= MOST_ROUNDS * MOST_ROUNDS * MOST_ROUNDS * MOST_ROUNDS) {
            return refuse(BEYOND);
        }
        int rest = rounds;
        for (int place = 0; place < PLACES; place++) {
            int round = rest % MOST_ROUNDS;
            rest /= MOST_ROUNDS;
            if (!shelf.has(round)) {
                return refuse(BEYOND);
            }
            System.arraycopy(shelf.numbers, COLUMNS * round, work.numbers, COLUMNS * place, COLUMNS);
        }
        return keepWork();
    }

    public int part() {
        if (kissesThere == 0) {
            return refuse(MISSING);
        }
        kissesThere--;
        return kissesThere;
    }

    public int of(int kiss, int place, int what) {
        if (!hasPlace(kiss, place)) {
            return refuseByZero(BEYOND);
        }
        if (what < 0 || what >= COLUMNS) {
            return refuseByZero(NO);
        }
        return kisses[kiss].number(place, what);
    }

    public long height(int kiss) {
        return hasKiss(kiss) ? kisses[kiss].bendSum() : refuseByZero(BEYOND);
    }

    public long fourth(int kiss, int place) {
        return hasPlace(kiss, place) ? kisses[kiss].swapped(place, 0) : refuseByZero(BEYOND);
    }

    public int swap(int kiss, int place) {
        if (!hasPlace(kiss, place)) {
            return refuse(BEYOND);
        }
        return kisses[kiss].trySwap(place, COLUMNS) ? 1 : refuse(FULL);
    }

    public int word(int kiss, int digits, int n) {
        if (!hasKiss(kiss)) {
            return refuse(BEYOND);
        }
        if (n < 0) {
            return refuse(BELOW);
        }
        if (n > MOST_WORD_SWAPS || digits < 0 || digits >= 1 << (2 * n)) {
            return refuse(NO);
        }
        for (int done = 0; done < n; done++) {
            int place = (digits >> (2 * done)) & 3;
            if (!kisses[kiss].trySwap(place, COLUMNS)) {
                return done;
            }
        }
        return n;
    }

    public int least(int kiss) {
        int refusal = whyNoLeast(kiss);
        if (refusal != FINE) {
            return refuse(refusal);
        }
        work.take(kisses[kiss]);
        int swaps = work.leadBack(COLUMNS);
        if (swaps < 0) {
            return refuse(FULL);
        }
        kisses[kiss].take(work);
        ledPlaces = work.firstPlaces;
        return swaps;
    }

    public int led() {
        return ledPlaces;
    }

    public int same(int kiss, int other) {
        if (!hasKiss(kiss) || !hasKiss(other)) {
            return refuse(BEYOND);
        }
        if (whyNoLeast(kiss) != FINE || whyNoLeast(other) != FINE) {
            return refuse(NO);
        }
        work.takeLeastBends(kisses[kiss]);
        secondWork.takeLeastBends(kisses[other]);
        return work.hasBendsOf(secondWork) ? 1 : 0;
    }

    public int shut(int kiss) {
        int refusal = whyNoLeast(kiss);
        if (refusal != FINE) {
            return refuse(refusal);
        }
        work.takeLeastBends(kisses[kiss]);
        return work.hasBendBelowZero() ? 1 : 0;
    }

    // ---- packings: they leave the kiss as it is

    public int count(int kiss, int n) {
        int refusal = whyNoPackingUpTo(kiss, n);
        if (refusal != FINE) {
            return refuse(refusal);
        }
        packing.survey(work, n, Packing.NO_PLACE);
        return packing.tally;
    }

    public int bends(int kiss, int n) {
        int refusal = whyNoPackingUpTo(kiss, n);
        if (refusal != FINE) {
            return refuse(refusal);
        }
        packing.survey(work, n, Packing.NO_PLACE);
        return packing.tallyAtLimit;
    }

    public int next(int kiss, int n) {
        int refusal = whyNoPacking(kiss);
        if (refusal == FINE && (n < -GREATEST_NUMBER || n >= GREATEST_PACKED_BEND)) {
            refusal = NO;
        }
        if (refusal != FINE) {
            return refuse(refusal);
        }
        return packing.leastBendAbove(work, n);
    }

    public int rests(int kiss, int n) {
        int refusal = whyNoPackingUpTo(kiss, n);
        if (refusal != FINE) {
            return refuse(refusal);
        }
        packing.survey(work, n, Packing.NO_PLACE);
        return packing.restBits;
    }

    public long sum(int kiss, int n, int what) {
        int refusal = whyNoPackingUpTo(kiss, n);
        if (refusal == FINE && (what < 0 || what > PLACES)) {
            refusal = NO;
        }
        if (refusal != FINE) {
            return refuseByZero(refusal);
        }
        // Without the swaps at a place, the walk meets just what touches the round there.
        packing.survey(work, n, what == 0 ? Packing.NO_PLACE : what - 1);
        return what == 0 ? packing.bendTotal : packing.tally;
    }

    // ---- fractions

    public int near(int f, int g) {
        if (!Fractions.isOne(f) || !Fractions.isOne(g)) {
            return refuse(NO);
        }
        return Fractions.areNear(f, g) ? 1 : 0;
    }

    public int between(int f, int g) {
        if (!Fractions.isOne(f) || !Fractions.isOne(g) || !Fractions.areNear(f, g)) {
            return refuse(NO);
        }
        int top = Fractions.top(f) + Fractions.top(g);
        int bottom = Fractions.bottom(f) + Fractions.bottom(g);
        return bottom < FRACTION_BASE ? Fractions.told(top, bottom) : refuse(FULL);
    }

    public int fractions(int n) {
        if (!isOrder(n)) {
            return refuse(NO);
        }
        farey.fill(n);
        return farey.size;
    }

    public int fraction(int n, int i) {
        if (!isOrder(n)) {
            return refuse(NO);
        }
        farey.fill(n);
        return i >= 0 && i < farey.size ? farey.told[i] : refuse(BEYOND);
    }

    public int beside(int f, int n, boolean down) {
        if (!isInRow(f, n)) {
            return refuse(NO);
        }
        farey.fill(n);
        int i = farey.placeOf(f) + (down ? -1 : 1);
        return i >= 0 && i < farey.size ? farey.told[i] : NONE;
    }

    public int way(int f, int g, int n) {
        if (!isInRow(f, n) || !isInRow(g, n)) {
            return refuse(NO);
        }
        farey.fill(n);
        trail.lead(farey, f, g);
        return trail.steps;
    }

    public int step(int i) {
        if (!trail.isThere()) {
            return refuse(MISSING);
        }
        return i >= 0 && i <= trail.steps ? trail.stops[i] : refuse(BEYOND);
    }

    // ---- rows

    public int lay(int kiss) {
        if (!hasKiss(kiss)) {
            return refuse(BEYOND);
        }
        System.arraycopy(kisses[kiss].numbers, 0, laid, 0, QUAD_NUMBERS);
        isLaid = true;
        return QUAD_NUMBERS;
    }

    public int tear() {
        int was = isLaid ? 1 : 0;
        isLaid = false;
        return was;
    }

    public int row(int i) {
        if (!isLaid) {
            return refuseByZero(MISSING);
        }
        return i >= 0 && i < QUAD_NUMBERS ? laid[i] : refuseByZero(BEYOND);
    }

    public int copy(int i, int j, int n) {
        if (!isLaid) {
            return refuse(MISSING);
        }
        if (n < 0) {
            return refuse(BELOW);
        }
        if (i < 0 || j < 0 || (long) i + n > QUAD_NUMBERS || (long) j + n > QUAD_NUMBERS) {
            return refuse(COPY);
        }
        System.arraycopy(laid, i, laid, j, n);
        return n;
    }

    public int give() {
        if (!isLaid) {
            return refuse(MISSING);
        }
        System.arraycopy(laid, 0, work.numbers, 0, QUAD_NUMBERS);
        return keepWork();
    }

    public int status(int by) {
        return by <= MISSING && by >= FULL ? refusals[-by] : refuse(NO);
    }

    // ---- what the calls share

    private int refuse(int reason) {
        refusals[-reason]++;
        return reason;
    }

    private int refuseByZero(int reason) {
        refusals[-reason]++;
        return 0;
    }

    private boolean hasKiss(int kiss) {
        return kiss >= 0 && kiss < kissesThere;
    }

    private boolean hasPlace(int kiss, int place) {
        return hasKiss(kiss) && place >= 0 && place < PLACES;
    }

    /** Makes a new kiss of the numbers at work. */
    private int keepWork() {
        if (!work.keepsLaws() || !work.allTouch()) {
            return refuse(NO);
        }
        if (kissesThere == MOST_KISSES) {
            return refuse(FULL);
        }
        kisses[kissesThere].take(work);
        kissesThere++;
        return kissesThere - 1;
    }

    private int whyNoLeast(int kiss) {
        if (!hasKiss(kiss)) {
            return BEYOND;
        }
        return kisses[kiss].bendSum() > 0 ? FINE : NO;
    }

    /** Where nothing is refused, the bends of the least stand at work afterwards. */
    private int whyNoPacking(int kiss) {
        int refusal = whyNoLeast(kiss);
        if (refusal != FINE) {
            return refusal;
        }
        work.takeLeastBends(kisses[kiss]);
        return work.hasBendBelowZero() ? FINE : NO;
    }

    private int whyNoPackingUpTo(int kiss, int n) {
        int refusal = whyNoPacking(kiss);
        if (refusal != FINE) {
            return refusal;
        }
        return n >= 0 && n <= GREATEST_PACKED_BEND ? FINE : NO;
    }

    private static boolean isOrder(int n) {
        return n >= 1 && n <= GREATEST_ORDER;
    }

    private static boolean isInRow(int f, int n) {
        return isOrder(n) && Fractions.isOne(f) && Fractions.bottom(f) <= n;
    }

    /** Laws of whole numbers and of the four numbers of a round, which stand at a place of an array. */
    private static final class Numbers {
        /** Far above the divisions that Euclid's way needs for an int. */
        private static final int MOST_DIVISIONS = 100;

        private Numbers() {
        }

        static boolean fits(long number) {
            return number >= -GREATEST_NUMBER && number <= GREATEST_NUMBER;
        }

        static boolean keepLaw(int a, int b, int x, int y) {
            // Beyond the limit the squares could wrap around, so that is looked at first.
            if (!fits(a) || !fits(b) || !fits(x) || !fits(y)) {
                return false;
            }
            return (long) x * x + (long) y * y - (long) a * b == 1;
        }

        static long productAt(int[] numbers, int i, int j) {
            long across = (long) numbers[i + 2] * numbers[j + 2] + (long) numbers[i + 3] * numbers[j + 3];
            return 2 * across - (long) numbers[i] * numbers[j + 1] - (long) numbers[j] * numbers[i + 1];
        }

        static int kindByBend(int a) {
            return a == 0 ? LINE : PLAIN;
        }

        /** How two rounds meet that are not alike. */
        static int meetingBy(long product) {
            if (product < TOUCHING) {
                return 5;
            }
            if (product > 2) {
                return 6;
            }
            if (product == TOUCHING) {
                return 1;
            }
            if (product == 2) {
                return 2;
            }
            return product == 0 ? 3 : 4;
        }

        /** Of numbers that are not below 0. */
        static boolean isLowest(int p, int q) {
            int greater = p;
            int less = q;
            for (int i = 0; i < MOST_DIVISIONS && less != 0; i++) {
                int rest = greater % less;
                greater = less;
                less = rest;
            }
            return greater == 1;
        }
    }

    /** The rounds as they came. */
    private static final class Shelf {
        private final int[] numbers;
        private final int[] kinds;
        private final int[] tops;
        private final int[] bottoms;
        private int size;

        Shelf() {
            numbers = new int[MOST_ROUNDS * COLUMNS];
            kinds = new int[MOST_ROUNDS];
            tops = new int[MOST_ROUNDS];
            bottoms = new int[MOST_ROUNDS];
        }

        boolean has(int round) {
            return round >= 0 && round < size;
        }

        boolean isFull() {
            return size >= MOST_ROUNDS;
        }

        int number(int round, int column) {
            return numbers[COLUMNS * round + column];
        }

        int put(int kind, int a, int b, int x, int y) {
            int at = COLUMNS * size;
            numbers[at] = a;
            numbers[at + 1] = b;
            numbers[at + 2] = x;
            numbers[at + 3] = y;
            kinds[size] = kind;
            size++;
            return size - 1;
        }

        int putOver(int p, int q) {
            tops[size] = p;
            bottoms[size] = q;
            return put(OVER, 2 * q * q, 2 * p * p, 2 * p * q, 1);
        }

        int putOtherSide(int round) {
            int a = -number(round, 0);
            return put(Numbers.kindByBend(a), a, -number(round, 1), -number(round, 2), -number(round, 3));
        }

        int takeLatest() {
            size--;
            return size;
        }

        long productOf(int round, int other) {
            return Numbers.productAt(numbers, COLUMNS * round, COLUMNS * other);
        }

        boolean isAlike(int round, int other) {
            for (int column = 0; column < COLUMNS; column++) {
                if (number(round, column) != number(other, column)) {
                    return false;
                }
            }
            return true;
        }

        boolean mirrorFits(int round, int other) {
            long product = productOf(round, other);
            // A product beyond twice the limit leads beyond it, as no round is all 0; and it could wrap around.
            if (product < -2L * GREATEST_NUMBER || product > 2L * GREATEST_NUMBER) {
                return false;
            }
            for (int column = 0; column < COLUMNS; column++) {
                if (!Numbers.fits(mirrored(round, other, column, product))) {
                    return false;
                }
            }
            return true;
        }

        /** Where mirrorFits has told that it fits. */
        int putMirror(int round, int other) {
            long product = productOf(round, other);
            return put(TURNED, (int) mirrored(round, other, 0, product), (int) mirrored(round, other, 1, product),
                    (int) mirrored(round, other, 2, product), (int) mirrored(round, other, 3, product));
        }

        private long mirrored(int round, int other, int column, long product) {
            return number(round, column) - product * number(other, column);
        }
    }

    /** Four rounds, place by place; as a kiss, or as numbers at work. */
    private static final class Quad {
        /** Bends go down by squares, so some 32,000 swaps are the most that the limit lets be. */
        private static final int MOST_SWAPS = 1_000_000;

        private final int[] numbers;
        private int firstPlaces;

        Quad() {
            numbers = new int[QUAD_NUMBERS];
        }

        void take(Quad other) {
            System.arraycopy(other.numbers, 0, numbers, 0, QUAD_NUMBERS);
        }

        int number(int place, int column) {
            return numbers[COLUMNS * place + column];
        }

        int bend(int place) {
            return numbers[COLUMNS * place];
        }

        long bendSum() {
            return (long) bend(0) + bend(1) + bend(2) + bend(3);
        }

        /** Twice the sum of the other three, less its own: twice the sum of all, less three times its own. */
        long swapped(int place, int column) {
            long all = (long) numbers[column] + numbers[COLUMNS + column]
                    + numbers[2 * COLUMNS + column] + numbers[3 * COLUMNS + column];
            return 2 * all - 3L * numbers[COLUMNS * place + column];
        }

        /** A swap of the first columns; false, and nothing is done, if a number would be beyond. */
        boolean trySwap(int place, int columns) {
            for (int column = 0; column < columns; column++) {
                if (!Numbers.fits(swapped(place, column))) {
                    return false;
                }
            }
            for (int column = 0; column < columns; column++) {
                numbers[COLUMNS * place + column] = (int) swapped(place, column);
            }
            return true;
        }

        private int placeOfGreatestBend() {
            int greatest = 0;
            for (int place = 1; place < PLACES; place++) {
                if (bend(place) > bend(greatest)) {
                    greatest = place;
                }
            }
            return greatest;
        }

        /** Becomes its least in the first columns: how many swaps; NONE if a number would be beyond. */
        int leadBack(int columns) {
            firstPlaces = 0;
            for (int swaps = 0; swaps < MOST_SWAPS; swaps++) {
                int place = placeOfGreatestBend();
                if (swapped(place, 0) >= bend(place)) {
                    return swaps;
                }
                if (!trySwap(place, columns)) {
                    return NONE;
                }
                if (swaps < MOST_WORD_SWAPS) {
                    firstPlaces |= place << (2 * swaps);
                }
            }
            return MOST_SWAPS;
        }

        /** Only the bends are those of the least then, not the other numbers. */
        void takeLeastBends(Quad kiss) {
            take(kiss);
            leadBack(BENDS_ALONE);
        }

        boolean hasBendBelowZero() {
            for (int place = 0; place < PLACES; place++) {
                if (bend(place) < 0) {
                    return true;
                }
            }
            return false;
        }

        boolean hasBendsOf(Quad other) {
            for (int place = 0; place < PLACES; place++) {
                if (howOften(bend(place)) != other.howOften(bend(place))) {
                    return false;
                }
            }
            return true;
        }

        private int howOften(int bend) {
            int times = 0;
            for (int place = 0; place < PLACES; place++) {
                if (bend(place) == bend) {
                    times++;
                }
            }
            return times;
        }

        boolean keepsLaws() {
            for (int place = 0; place < PLACES; place++) {
                if (!Numbers.keepLaw(number(place, 0), number(place, 1), number(place, 2), number(place, 3))) {
                    return false;
                }
            }
            return true;
        }

        boolean allTouch() {
            for (int place = 1; place < PLACES; place++) {
                for (int before = 0; before < place; before++) {
                    if (Numbers.productAt(numbers, COLUMNS * place, COLUMNS * before) != TOUCHING) {
                        return false;
                    }
                }
            }
            return true;
        }
    }

    /** A walk through a shut packing: what it counts stands in its fields afterwards. */
    private static final class Packing {
        static final int NO_PLACE = -1;

        /** New bends go up by squares at least, so bends up to 300 need less than half of this depth. */
        private static final int MOST_DEPTH = 40;

        private final int[] quad;
        private int limit;
        private int barred;
        private int floor;
        private int tally;
        private int tallyAtLimit;
        private int restBits;
        private long bendTotal;
        private boolean isAboveFound;
        private int leastAbove;

        Packing() {
            quad = new int[PLACES];
        }

        /** Counts the rounds up to a limit; those at a barred place, or by swaps at it, are left out. */
        void survey(Quad least, int upTo, int barredPlace) {
            limit = upTo;
            barred = barredPlace;
            tally = 0;
            tallyAtLimit = 0;
            restBits = 0;
            bendTotal = 0;
            isAboveFound = false;
            for (int place = 0; place < PLACES; place++) {
                quad[place] = least.bend(place);
                if (place != barred && quad[place] <= limit) {
                    note(quad[place]);
                }
            }
            grow(this, NO_PLACE, 0);
        }

        int leastBendAbove(Quad least, int number) {
            floor = number;
            survey(least, GREATEST_PACKED_BEND, NO_PLACE);
            return isAboveFound ? leastAbove : NONE;
        }

        /** A swap undone brings back the bends before it, so one array serves all depths. */
        private static void grow(Packing walk, int latestPlace, int depth) {
            if (depth >= MOST_DEPTH) {
                return;
            }
            int[] quad = walk.quad;
            long all = (long) quad[0] + quad[1] + quad[2] + quad[3];
            for (int place = 0; place < PLACES; place++) {
                int old = quad[place];
                long fresh = 2 * all - 3L * old;
                if (place != latestPlace && place != walk.barred && fresh <= walk.limit) {
                    quad[place] = (int) fresh;
                    walk.note(quad[place]);
                    grow(walk, place, depth + 1);
                    quad[place] = old;
                }
            }
        }

        private void note(int bend) {
            tally++;
            bendTotal += bend;
            restBits |= 1 << Math.floorMod(bend, RESTS_MODULUS);
            if (bend == limit) {
                tallyAtLimit++;
            }
            if (bend > floor && (!isAboveFound || bend < leastAbove)) {
                isAboveFound = true;
                leastAbove = bend;
            }
        }
    }

    /** Fractions told as 100 p + q. */
    private static final class Fractions {
        private Fractions() {
        }

        static int told(int top, int bottom) {
            return FRACTION_BASE * top + bottom;
        }

        static int top(int f) {
            return f / FRACTION_BASE;
        }

        static int bottom(int f) {
            return f % FRACTION_BASE;
        }

        static boolean isOne(int f) {
            return f > 0 && bottom(f) >= 1 && top(f) <= bottom(f) && Numbers.isLowest(top(f), bottom(f));
        }

        static boolean areNear(int f, int g) {
            int across = top(f) * bottom(g) - top(g) * bottom(f);
            return across == 1 || across == -1;
        }
    }

    /** The fractions of one order, by size; kept till another order is asked for. */
    private static final class FareyRow {
        private final int[] told;
        private int order;
        private int size;

        FareyRow() {
            told = new int[MOST_FRACTIONS];
        }

        void fill(int n) {
            if (n == order) {
                return;
            }
            order = n;
            size = 0;
            int top = 0;
            int bottom = 1;
            int nextTop = 1;
            int nextBottom = n;
            while (size < MOST_FRACTIONS && nextBottom > 0) {
                told[size] = Fractions.told(top, bottom);
                size++;
                if (top == bottom) {
                    return;
                }
                // Of three in a row, the outer ones sum up to a multiple of the middle one.
                int times = (n + bottom) / nextBottom;
                int thirdTop = times * nextTop - top;
                int thirdBottom = times * nextBottom - bottom;
                top = nextTop;
                bottom = nextBottom;
                nextTop = thirdTop;
                nextBottom = thirdBottom;
            }
        }

        int placeOf(int f) {
            for (int i = 0; i < size; i++) {
                if (told[i] == f) {
                    return i;
                }
            }
            return NONE;
        }
    }

    /** The latest way from one fraction to another. */
    private static final class Trail {
        private static final int KEY_BASE = GREATEST_ORDER + 1;

        /** By key: how far from the goal, plus 1; 0 where that isn't known. */
        private final int[] reach;
        private final int[] found;
        private final int[] stops;
        private int foundThere;
        private int steps;

        Trail() {
            reach = new int[KEY_BASE * KEY_BASE];
            found = new int[MOST_FRACTIONS];
            stops = new int[MOST_FRACTIONS];
            steps = NONE;
        }

        boolean isThere() {
            return steps >= 0;
        }

        /** Both fractions stand in the row. */
        void lead(FareyRow row, int from, int goal) {
            spread(row.order, goal, from);
            steps = Math.max(0, reach[key(from)] - 1);
            stops[0] = from;
            for (int i = 1; i <= steps; i++) {
                stops[i] = leastNear(row, stops[i - 1], steps - i + 1);
            }
        }

        private static int key(int f) {
            return KEY_BASE * (f / FRACTION_BASE) + f % FRACTION_BASE;
        }

        /** Finds fractions, the nearest to the goal first, till the start is found. */
        private void spread(int order, int goal, int start) {
            Arrays.fill(reach, 0);
            foundThere = 0;
            find(goal, 1);
            for (int i = 0; i < foundThere && reach[key(start)] == 0; i++) {
                findAllNear(found[i], order);
            }
        }

        private void findAllNear(int f, int order) {
            int further = reach[key(f)] + 1;
            int bottom = Fractions.bottom(f);
            for (int low = 1; low <= order; low++) {
                int across = Fractions.top(f) * low;
                findQuotient(across - 1, bottom, low, further);
                findQuotient(across + 1, bottom, low, further);
            }
        }

        private void findQuotient(int dividend, int divisor, int low, int distance) {
            if (dividend < 0 || divisor <= 0 || dividend % divisor != 0) {
                return;
            }
            int top = dividend / divisor;
            if (top <= low) {
                find(Fractions.told(top, low), distance);
            }
        }

        private void find(int f, int distance) {
            if (reach[key(f)] == 0 && foundThere < MOST_FRACTIONS) {
                reach[key(f)] = distance;
                found[foundThere] = f;
                foundThere++;
            }
        }

        private int leastNear(FareyRow row, int f, int distance) {
            for (int i = 0; i < row.size; i++) {
                int g = row.told[i];
                if (reach[key(g)] == distance && Fractions.areNear(f, g)) {
                    return g;
                }
            }
            return f;
        }
    }
}
