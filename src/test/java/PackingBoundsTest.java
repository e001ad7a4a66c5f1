/** Promises 21 to 25: each sentence that names a boundary, just inside it, at it and just beyond it. */
public final class PackingBoundsTest extends Benches {
    private static final int OUTER = -454410317;

    /** Bends -12, 21, 37, 28; of those that come, two are 300 and two are 301. */
    private static final int[][] BOTH_SIDES = {{-12, -2, -5, 0}, {21, 3, 8, 0}, {37, 7, 16, 2}, {28, 6, 13, 0}};

    /** Bends 4, 12, -3, 13: 292 comes and 301, and none between them. */
    private static final int[][] JUST_BEYOND = {{4, 0, 0, -1}, {12, 4, 0, -7}, {-3, 0, 0, 1}, {13, 4, 2, -7}};

    /** Bends -4, 8, 12, 8: 24 comes, and four of 300. */
    private static final int[][] BY_FOUR = {{-4, 0, 0, -1}, {8, 0, 0, 1}, {12, 1, -2, 3}, {8, 1, 0, 3}};

    private static final int[][] OPEN = {{0, 0, 0, -1}, {0, 4, 0, 1}, {1, 0, 0, 1}, {1, 4, 2, 1}};

    private interface OnPacking {
        long on(RoundKiss x, int kiss, int n);
    }

    public static void main(String[] args) {
        sharedRefusals();
        promise21Count();
        promise21FromAnyKissOfIt();
        promise22Bends();
        promise23Numbers();
        promise23Above();
        promise24Rests();
        promise25What();
        promise25UpTo();
        highKiss();
        rowsAreUsedAgain();
        Due.end("PackingBoundsTest");
    }

    // ---- "As count(): BEYOND, NO: HEIGHT, not SHUT, n"

    private static void sharedRefusals() {
        refusalsOf("21: count", (x, kiss, n) -> x.count(kiss, n), 0, 300, false);
        refusalsOf("22: bends", (x, kiss, n) -> x.bends(kiss, n), 0, 300, false);
        refusalsOf("23: next", (x, kiss, n) -> x.next(kiss, n), -BILLION, 299, false);
        refusalsOf("24: rests", (x, kiss, n) -> x.rests(kiss, n), 0, 300, false);
        for (int what = 0; what <= 4; what++) {
            int each = what;
            refusalsOf("25: sum, what = " + what, (x, kiss, n) -> x.sum(kiss, n, each), 0, 300, true);
        }
    }

    private static void refusalsOf(String what, OnPacking call, int lowest, int highest, boolean tellsZero) {
        int no = tellsZero ? 0 : -7;
        int beyond = tellsZero ? 0 : -3;
        for (int n : new int[] {lowest, lowest + 1, highest - 1, highest}) {
            RoundKiss x = made(Benches::rich);
            call.on(x, 1, n);
            Due.is(what + " of n = " + n + " is not refused", x.status(-7) + x.status(-3), 0);
            Due.holds(what + " of n = " + n + " changed something", seen(x).equals(seen(made(Benches::rich))));
            refuses(what + " of n = " + n + ", not SHUT", Benches::rich, y -> call.on(y, 0, n), -7, no);
            refuses(what + " of n = " + n + ", HEIGHT", Benches::rich, y -> call.on(y, 2, n), -7, no);
            refuses(what + " of n = " + n + ", BEYOND", Benches::rich, y -> call.on(y, 3, n), -3, beyond);
        }
        for (int n : new int[] {Integer.MIN_VALUE, lowest - 1, highest + 1, Integer.MAX_VALUE}) {
            refuses(what + " of n = " + n, Benches::rich, y -> call.on(y, 1, n), -7, no);
            refuses(what + " of n = " + n + ", not SHUT", Benches::rich, y -> call.on(y, 0, n), -7, no);
            refuses(what + " of n = " + n + ", BEYOND ahead", Benches::rich, y -> call.on(y, 3, n), -3, beyond);
        }
        refuses(what + ": a least bend of 0", kissOf(OPEN), y -> call.on(y, 0, 5), -7, no);
        refuses(what + ": a height of -2", kissOf(otherSides(OPEN)), y -> call.on(y, 0, 5), -7, no);
        refuses(what + ": a height below -2^31", kissOf(otherSides(KissBoundsTest.HIGH)), y -> call.on(y, 0, 5), -7, no);
    }

    // ---- 21, 22

    private static void countsAre(int[][] four, int[][] counts) {
        for (int[] pair : counts) {
            asks("21: count(0, " + pair[0] + ") with " + four[0][0], kissOf(four), x -> x.count(0, pair[0]), pair[1]);
        }
    }

    /** "its ROUNDS with BENDS of at most n": a bend of n counts, one of n + 1 doesn't; of the least likewise. */
    private static void promise21Count() {
        countsAre(BOTH_SIDES, new int[][] {{0, 1}, {20, 1}, {21, 2}, {22, 2}, {27, 2}, {28, 3}, {36, 3}, {37, 5},
            {298, 27}, {299, 27}, {300, 29}});
        countsAre(JUST_BEYOND, new int[][] {{0, 1}, {3, 1}, {4, 2}, {291, 153}, {292, 155}, {299, 155}, {300, 155}});
        countsAre(BY_FOUR, new int[][] {{0, 1}, {7, 1}, {8, 3}, {12, 5}, {299, 115}, {300, 119}});
        asks("21: the most that there are", kisses(1), x -> x.count(0, 300), 695);
    }

    /** "the ROUNDS of its LEAST; and, from there on, ..": from each kiss of a packing the same. */
    private static void promise21FromAnyKissOfIt() {
        for (int place = 0; place < 4; place++) {
            for (int second = 0; second < 4; second++) {
                int word = place + 4 * second;
                asks("21: from the word " + word, x -> {
                    kissOf(BOTH_SIDES).on(x);
                    x.word(0, word, 2);
                }, x -> x.count(0, 300), 29);
            }
        }
    }

    /** "How many of them have the BEND n itself". */
    private static void promise22Bends() {
        int[][] bends = {{0, 0}, {20, 0}, {21, 1}, {22, 0}, {37, 2}, {38, 0}, {298, 0}, {299, 0}, {300, 2}};
        for (int[] pair : bends) {
            asks("22: bends(0, " + pair[0] + ")", kissOf(BOTH_SIDES), x -> x.bends(0, pair[0]), pair[1]);
        }
        asks("22: 299", kisses(1), x -> x.bends(0, 299), 12);
        asks("22: none of 300", kisses(1), x -> x.bends(0, 300), 0);
        asks("22: four of 300", kissOf(BY_FOUR), x -> x.bends(0, 300), 4);
    }

    // ---- 23

    /** "a number (-10^9 .. 299)", "of those UP TO 300", "NONE where there is none". */
    private static void promise23Numbers() {
        asks("23: next(0, -10^9)", kissOf(BOTH_SIDES), x -> x.next(0, -BILLION), -12);
        asks("23: next(0, -10^9 + 1)", kissOf(BOTH_SIDES), x -> x.next(0, -BILLION + 1), -12);
        refuses("23: next(0, -10^9 - 1)", kissOf(BOTH_SIDES), x -> x.next(0, -BILLION - 1), -7);
        asks("23: next(0, 298)", kissOf(BOTH_SIDES), x -> x.next(0, 298), 300);
        asks("23: next(0, 299)", kissOf(BOTH_SIDES), x -> x.next(0, 299), 300);
        refuses("23: next(0, 300)", kissOf(BOTH_SIDES), x -> x.next(0, 300), -7);
        asks("23: 301 is not up to 300", kissOf(JUST_BEYOND), x -> x.next(0, 299), -1);
        asks("23: none above 292", kissOf(JUST_BEYOND), x -> x.next(0, 292), -1);
        asks("23: 292", kissOf(JUST_BEYOND), x -> x.next(0, 291), 292);
    }

    /** "above a number": not the number itself; "a BEND of -1 is told as -1, too". */
    private static void promise23Above() {
        int[][] steps = {{-13, -12}, {-12, 21}, {-11, 21}, {-1, 21}, {0, 21}, {20, 21}, {21, 28}, {27, 28}, {28, 37},
            {36, 37}, {277, 300}, {276, 277}};
        for (int[] pair : steps) {
            asks("23: next(0, " + pair[0] + ")", kissOf(BOTH_SIDES), x -> x.next(0, pair[0]), pair[1]);
        }
        asks("23: the bend -1", kisses(1), x -> x.next(0, -2), -1);
        asks("23: above the bend -1", kisses(1), x -> x.next(0, -1), 2);
        asks("23: none above 299", kisses(1), x -> x.next(0, 299), -1);
        asks("23: 299 above 298", kisses(1), x -> x.next(0, 298), 299);
        // Bends that look like refusals are none.
        asks("23: the bend -2", Benches::threeKisses, x -> x.next(1, -3), -2);
        asks("23: the bend -3", kissOf(JUST_BEYOND), x -> x.next(0, -4), -3);
        asks("23: the bend -4", kissOf(BY_FOUR), x -> x.next(0, -5), -4);
        for (int n = 5; n <= 8; n++) {
            int outer = -n;
            asks("23: the bend " + outer, x -> {
                x.round(outer, 0, 1, 0);
                x.round(1 - outer, 0, -1, 0);
                x.round(outer * (outer - 1), 4, 2 * outer - 1, 0);
                x.round(outer * (outer - 1) + 1, 4, 2 * outer - 1, 2);
                x.kiss(digits(0, 1, 2, 3));
            }, x -> x.next(0, -BILLION), outer);
        }
    }

    // ---- 24

    /** "The rests modulo 24 (0 .. 23) of all BENDS UP TO n": -1 leaves 23, 24 leaves 0. */
    private static void promise24Rests() {
        asks("24: -1 alone", kisses(1), x -> x.rests(0, 0), 1 << 23);
        asks("24: -1 alone, at 1", kisses(1), x -> x.rests(0, 1), 1 << 23);
        asks("24: 2 comes", kisses(1), x -> x.rests(0, 2), 1 << 23 | 1 << 2);
        asks("24: -4, 8, 12", kissOf(BY_FOUR), x -> x.rests(0, 23), 1 << 20 | 1 << 8 | 1 << 12);
        asks("24: 24 comes", kissOf(BY_FOUR), x -> x.rests(0, 24), 1 << 20 | 1 << 8 | 1 << 12 | 1);
        asks("24: -12 alone", kissOf(BOTH_SIDES), x -> x.rests(0, 20), 1 << 12);
        asks("24: 21 comes", kissOf(BOTH_SIDES), x -> x.rests(0, 21), 1 << 12 | 1 << 21);
        asks("24: 28 leaves 4", kissOf(BOTH_SIDES), x -> x.rests(0, 28), 1 << 12 | 1 << 21 | 1 << 4);
        asks("24: all up to 300", kissOf(BOTH_SIDES), x -> x.rests(0, 300), 2174993);
    }

    // ---- 25

    private static void promise25What() {
        long[] told = {4539, 24, 16, 10, 12};
        for (int what = 0; what <= 4; what++) {
            int each = what;
            asks("25: what = " + what, kissOf(BOTH_SIDES), x -> x.sum(0, 300, each), told[what]);
        }
        for (int what : new int[] {Integer.MIN_VALUE, -1, 5, Integer.MAX_VALUE}) {
            refuses("25: what = " + what, Benches::rich, x -> x.sum(1, 300, what), -7, 0);
            refuses("25: BEYOND ahead of what = " + what, Benches::rich, x -> x.sum(3, 300, what), -3, 0);
            refuses("25: n and what = " + what, Benches::rich, x -> x.sum(1, 301, what), -7, 0);
        }
    }

    /** "In its PACKING UP TO n": a bend of n counts, one of n + 1 doesn't, be it of the least or not. */
    private static void promise25UpTo() {
        int[][] rows = {{0, -12, 0, 1, 1, 1}, {20, -12, 0, 1, 1, 1}, {21, 9, 1, 1, 2, 2}, {27, 9, 1, 1, 2, 2},
            {28, 37, 2, 2, 3, 2}, {36, 37, 2, 2, 3, 2}, {37, 111, 4, 4, 3, 4}, {299, 3939, 22, 16, 9, 12},
            {300, 4539, 24, 16, 10, 12}};
        for (int[] row : rows) {
            for (int what = 0; what <= 4; what++) {
                int each = what;
                asks("25: sum(0, " + row[0] + ", " + what + ")", kissOf(BOTH_SIDES), x -> x.sum(0, row[0], each),
                        row[what + 1]);
            }
        }
        for (int what = 1; what <= 4; what++) {
            int each = what;
            asks("25: the places are those of the least, " + what, x -> {
                kissOf(BOTH_SIDES).on(x);
                x.word(0, 2 + 4 * 0, 2);
            }, x -> x.sum(0, 300, each), rows[8][what + 1]);
        }
        asks("25: a sum of 0 is no refusal", kissOf(BOTH_SIDES), x -> x.sum(0, 0, 1), 0);
    }

    // ---- bends far beyond

    /** The bends of this kiss sum up to more than 2^31: one alone is up to 300. */
    private static void highKiss() {
        Setup high = kissOf(KissBoundsTest.HIGH);
        asks("21: of a high kiss", high, x -> x.count(0, 300), 1);
        asks("21: of a high kiss, at 0", high, x -> x.count(0, 0), 1);
        asks("22: of a high kiss", high, x -> x.bends(0, 300), 0);
        asks("23: of a high kiss", high, x -> x.next(0, -BILLION), OUTER);
        asks("23: just below its outer bend", high, x -> x.next(0, OUTER - 1), OUTER);
        asks("23: at its outer bend", high, x -> x.next(0, OUTER), -1);
        asks("24: of a high kiss", high, x -> x.rests(0, 300), 1 << Math.floorMod(OUTER, 24));
        asks("25: of a high kiss", high, x -> x.sum(0, 300, 0), OUTER);
        asks("25: none touches its outer round", high, x -> x.sum(0, 300, 1), 0);
        for (int what = 2; what <= 4; what++) {
            int each = what;
            asks("25: the outer round touches place " + (what - 1), high, x -> x.sum(0, 300, each), 1);
        }
    }

    /** A call leaves nothing behind for the next one. */
    private static void rowsAreUsedAgain() {
        RoundKiss x = made(kisses(1));
        for (int twice = 0; twice < 2; twice++) {
            Due.is("24: much", x.rests(0, 300), 8702028);
            Due.is("24: little behind much", x.rests(0, 0), 1 << 23);
            Due.is("21: much", x.count(0, 300), 695);
            Due.is("21: little behind much", x.count(0, 0), 1);
            Due.is("22: much", x.bends(0, 299), 12);
            Due.is("22: little behind much", x.bends(0, 0), 0);
            Due.is("23: high", x.next(0, 298), 299);
            Due.is("23: low behind high", x.next(0, -2), -1);
            Due.is("25: little behind much", x.sum(0, 0, 0), -1);
            Due.is("25: touching", x.sum(0, 6, 1), 8);
            Due.is("21: all behind those that touch", x.count(0, 6), 9);
        }
    }
}
