/** Promises 1 to 9: each sentence that names a boundary, just inside it, at it and just beyond it. */
public final class RoundBoundsTest extends Benches {
    private static final int HALF = BILLION / 2;
    private static final int MOST = 20;

    public static void main(String[] args) {
        promise1NoRoundsNoKisses();
        promise2NumbersAtTheLimit();
        promise2NumbersBeyond();
        promise2Law();
        promise2Kinds();
        promise3Parts();
        promise3LowestTerms();
        noRoomForRounds();
        promise4Drop();
        promise5Rounds();
        promise5What();
        promise5TellsZeroUnrefused();
        promise6Product();
        promise7Products();
        promise7Alike();
        promise8MirrorNumbers();
        promise8GreatProducts();
        promise8RoundsBeside();
        promise8Kinds();
        promise9Flip();
        Due.end("RoundBoundsTest");
    }

    /** "No ROUNDS, no KISSES": what the first number of each would be is beyond, and the rest is missing. */
    private static void promise1NoRoundsNoKisses() {
        Setup fresh = Benches::empty;
        refuses("1: look(0, 0)", fresh, x -> x.look(0, 0), -3, 0);
        refuses("1: look(0, 5)", fresh, x -> x.look(0, 5), -3, 0);
        refuses("1: product(0, 0)", fresh, x -> x.product(0, 0), -3, 0);
        refuses("1: meet(0, 0)", fresh, x -> x.meet(0, 0), -3);
        refuses("1: mirror(0, 0)", fresh, x -> x.mirror(0, 0), -3);
        refuses("1: flip(0)", fresh, x -> x.flip(0), -3);
        refuses("1: kiss(0)", fresh, x -> x.kiss(0), -3);
        refuses("1: of(0, 0, 0)", fresh, x -> x.of(0, 0, 0), -3, 0);
        refuses("1: height(0)", fresh, x -> x.height(0), -3, 0);
        refuses("1: fourth(0, 0)", fresh, x -> x.fourth(0, 0), -3, 0);
        refuses("1: swap(0, 0)", fresh, x -> x.swap(0, 0), -3);
        refuses("1: word(0, 0, 0)", fresh, x -> x.word(0, 0, 0), -3);
        refuses("1: least(0)", fresh, x -> x.least(0), -3);
        refuses("1: same(0, 0)", fresh, x -> x.same(0, 0), -3);
        refuses("1: shut(0)", fresh, x -> x.shut(0), -3);
        refuses("1: count(0, 0)", fresh, x -> x.count(0, 0), -3);
        refuses("1: bends(0, 0)", fresh, x -> x.bends(0, 0), -3);
        refuses("1: next(0, 0)", fresh, x -> x.next(0, 0), -3);
        refuses("1: rests(0, 0)", fresh, x -> x.rests(0, 0), -3);
        refuses("1: sum(0, 0, 0)", fresh, x -> x.sum(0, 0, 0), -3, 0);
        refuses("1: lay(0)", fresh, x -> x.lay(0), -3);
        answers("1: the first round is 0", fresh, x -> x.round(3, 1, 0, 2), 0);
        answers("1: the first over is 0", fresh, x -> x.over(0, 1), 0);
    }

    // ---- 2

    private static void keeps(int... r) {
        String what = "2: round(" + r[0] + ", " + r[1] + ", " + r[2] + ", " + r[3] + ")";
        answers(what, Benches::bench, x -> x.round(r[0], r[1], r[2], r[3]), 8);
        RoundKiss x = made(Benches::bench);
        x.round(r[0], r[1], r[2], r[3]);
        numbersAre(what, x, 8, r[0] == 0 ? 1 : 0, r[0], r[1], r[2], r[3]);
        Due.is(what + " is the last", x.drop(), 8);
    }

    private static void breaks(int... r) {
        refuses("2: round(" + r[0] + ", " + r[1] + ", " + r[2] + ", " + r[3] + ")", Benches::bench,
                x -> x.round(r[0], r[1], r[2], r[3]), -7);
    }

    /** "-10^9 .. 10^9 each": x or y at the limit asks for a and b at the limit, by the law. */
    private static void promise2NumbersAtTheLimit() {
        for (int sign = -1; sign <= 1; sign += 2) {
            for (int at = BILLION - 1; at <= BILLION; at++) {
                int n = sign * at;
                keeps(n, 0, 0, 1);
                keeps(n, 0, -1, 0);
                keeps(0, n, 0, 1);
                keeps(0, n, -1, 0);
                keeps(at, at, n, 1);
                keeps(-at, -at, n, -1);
                keeps(at, at, 1, n);
                keeps(-at, -at, -1, n);
            }
        }
    }

    /** "NO: a number beyond 10^9", where the law is kept. */
    private static void promise2NumbersBeyond() {
        int over = BILLION + 1;
        for (int sign = -1; sign <= 1; sign += 2) {
            breaks(sign * over, 0, 0, 1);
            breaks(sign * over, 0, 1, 0);
            breaks(0, sign * over, 0, 1);
            breaks(0, sign * over, 1, 0);
            breaks(over, over, sign * over, 1);
            breaks(-over, -over, sign * over, 1);
            breaks(over, over, 1, sign * over);
            breaks(-over, -over, 1, sign * over);
            // (10^9 + 1) (10^9 + 1) with one of a, b not beyond.
            breaks(1571428573, 636363637, sign * over, 1);
            breaks(636363637, 1571428573, sign * over, 1);
            breaks(636363637, 1571428573, 1, sign * over);
        }
        for (int edge : new int[] {Integer.MIN_VALUE, Integer.MAX_VALUE}) {
            breaks(edge, 0, 0, 1);
            breaks(0, edge, 1, 0);
            breaks(edge, edge, edge, 1);
            breaks(edge, edge, 1, edge);
            breaks(edge, edge, edge, edge);
        }
    }

    /** "NO: the law isn't kept": 0 and 2 instead of 1, and sums that are 1 only where they wrap around. */
    private static void promise2Law() {
        keeps(3, 1, 0, 2);
        breaks(2, 2, 0, 2);
        breaks(2, 1, 0, 2);
        breaks(0, 0, 0, 0);
        keeps(0, 0, 1, 0);
        breaks(0, 0, 1, 1);
        breaks(1, 1, 1, 0);
        keeps(1, 0, 1, 0);
        breaks(-1, 1, 1, 0);
        keeps(BILLION, BILLION, BILLION, 1);
        breaks(BILLION, BILLION, BILLION, 0);
        breaks(BILLION, BILLION, BILLION, 2);
        breaks(BILLION, BILLION - 1, BILLION, 1);
        breaks(BILLION, -BILLION, BILLION, 1);
        breaks(BILLION, BILLION, BILLION, BILLION);
        breaks(0, 0, 65536, 1);
        breaks(0, 0, 1, 65536);
        breaks(65536, 65536, 0, 1);
        breaks(-65536, 65536, 1, 0);
        breaks(65536, -65536, 65536, 1);
    }

    /** "A ROUND that is told by numbers is a LINE, if a is 0, else PLAIN". */
    private static void promise2Kinds() {
        RoundKiss x = new RoundKiss();
        x.round(-1, 0, 0, 1);
        x.round(0, 0, 0, 1);
        x.round(1, 0, 0, 1);
        x.round(2, 0, 0, 1);
        Due.is("2: a = -1 is PLAIN", x.look(0, 0), 0);
        Due.is("2: a = 0 is a LINE", x.look(1, 0), 1);
        Due.is("2: a = 1 is PLAIN", x.look(2, 0), 0);
        Due.is("2: the numbers of an OVER, told, are PLAIN", x.look(3, 0), 0);
    }

    // ---- 3

    private static void isOver(int p, int q) {
        String what = "3: over(" + p + ", " + q + ")";
        answers(what, Benches::bench, x -> x.over(p, q), 8);
        RoundKiss x = made(Benches::bench);
        x.over(p, q);
        numbersAre(what, x, 8, 2, 2 * q * q, 2 * p * p, 2 * p * q, 1, p, q);
    }

    private static void isNoOver(int p, int q) {
        refuses("3: over(" + p + ", " + q + ")", Benches::bench, x -> x.over(p, q), -7);
    }

    /** "q 1 .. 999, p 0 .. 999". */
    private static void promise3Parts() {
        isOver(0, 1);
        isOver(1, 1);
        isNoOver(-1, 1);
        isOver(998, 1);
        isOver(999, 1);
        isNoOver(1000, 1);
        isOver(1, 998);
        isOver(1, 999);
        isNoOver(1, 1000);
        isOver(1, 2);
        isNoOver(1, 0);
        isNoOver(1, -1);
        isNoOver(-1, -1);
        isOver(998, 999);
        isOver(999, 998);
        isNoOver(1000, 999);
        isNoOver(999, 1000);
        isNoOver(1000, 1001);
        for (int edge : new int[] {Integer.MIN_VALUE, Integer.MAX_VALUE}) {
            isNoOver(edge, 1);
            isNoOver(1, edge);
            isNoOver(0, edge);
            isNoOver(edge, edge);
        }
    }

    /** "not in lowest terms (0 is 0 / 1)". */
    private static void promise3LowestTerms() {
        isNoOver(0, 0);
        isNoOver(0, 2);
        isNoOver(0, 999);
        isNoOver(0, -1);
        isNoOver(2, 2);
        isNoOver(999, 999);
        isNoOver(499 * 2, 2);
        isNoOver(2, 998);
        isNoOver(333, 999);
        isNoOver(999, 37);
        isNoOver(4, 6);
        isOver(5, 6);
        isOver(610, 987);
    }

    // ---- 2, 3, 8, 9: FULL

    private static void fillsTheLastPlace(String call, Call made) {
        answers(call + " as round 18", rounds(MOST - 2), made, MOST - 2);
        answers(call + " as round 19", rounds(MOST - 1), made, MOST - 1);
        refuses(call + " beside twenty", rounds(MOST), made, -8);
        answers(call + " where one was dropped", x -> {
            rounds(MOST).on(x);
            x.drop();
        }, made, MOST - 1);
    }

    /** "ROUNDS 0 .. 19 as they come": the twentieth comes, one more is FULL. */
    private static void noRoomForRounds() {
        fillsTheLastPlace("2: round()", x -> x.round(3, 1, 0, 2));
        fillsTheLastPlace("3: over()", x -> x.over(1, 2));
        fillsTheLastPlace("8: mirror()", x -> x.mirror(0, 1));
        fillsTheLastPlace("9: flip()", x -> x.flip(0));
        Setup twenty = rounds(MOST);
        refuses("2: NO ahead of FULL, by the law", twenty, x -> x.round(3, 1, 1, 2), -7);
        refuses("2: NO ahead of FULL, by a number", twenty, x -> x.round(BILLION + 1, 0, 0, 1), -7);
        refuses("3: NO ahead of FULL, by terms", twenty, x -> x.over(2, 4), -7);
        refuses("3: NO ahead of FULL, by p", twenty, x -> x.over(1000, 1), -7);
        refuses("8: BEYOND ahead of FULL", twenty, x -> x.mirror(20, 0), -3);
        refuses("8: BEYOND of the other ahead of FULL", twenty, x -> x.mirror(0, -1), -3);
        refuses("9: BEYOND ahead of FULL", twenty, x -> x.flip(20), -3);
    }

    // ---- 4

    private static void promise4Drop() {
        answers("4: of twenty", rounds(MOST), x -> x.drop(), MOST - 1);
        answers("4: of two", rounds(2), x -> x.drop(), 1);
        answers("4: of one", rounds(1), x -> x.drop(), 0);
        refuses("4: of none", rounds(0), x -> x.drop(), -2);
        refuses("4: of none, all dropped", x -> {
            rich(x);
            for (int i = 0; i < 12; i++) {
                x.drop();
            }
        }, x -> x.drop(), -2);
        RoundKiss x = made(rounds(1));
        x.drop();
        Due.is("4: the next one is the first again", x.over(1, 2), 0);
    }

    // ---- 5

    private static void promise5Rounds() {
        asks("5: the only one", rounds(1), x -> x.look(0, 1), 1);
        refuses("5: behind the only one", rounds(1), x -> x.look(1, 1), -3, 0);
        refuses("5: ahead of the first", rounds(1), x -> x.look(-1, 1), -3, 0);
        asks("5: round 19", rounds(MOST), x -> x.look(19, 3), 19);
        refuses("5: round 20", rounds(MOST), x -> x.look(20, 3), -3, 0);
        refuses("5: one that was dropped", x -> {
            rounds(MOST).on(x);
            x.drop();
        }, x -> x.look(19, 3), -3, 0);
        for (int edge : new int[] {Integer.MIN_VALUE, Integer.MAX_VALUE}) {
            refuses("5: look(" + edge + ", 1)", rounds(MOST), x -> x.look(edge, 1), -3, 0);
        }
        for (int what = -1; what <= 7; what++) {
            int each = what;
            refuses("5: BEYOND ahead of all, what = " + what, Benches::bench, x -> x.look(8, each), -3, 0);
        }
    }

    /** Rounds 3 PLAIN, 5 LINE, 4 OVER, 6 TURNED of the bench. */
    private static void promise5What() {
        int[] kinds = {0, 1, 2, 3};
        int[] round = {3, 5, 4, 6};
        int[][] numbers = {{3, 1, 0, 2}, {0, 5, 1, 0}, {8, 2, 4, 1}, {0, 2, 0, 1}};
        for (int i = 0; i < 4; i++) {
            int at = round[i];
            asks("5: KIND " + kinds[i], Benches::bench, x -> x.look(at, 0), kinds[i]);
            for (int what = 1; what <= 4; what++) {
                int each = what;
                asks("5: number " + what + " of kind " + i, Benches::bench, x -> x.look(at, each),
                        numbers[i][what - 1]);
            }
            for (int what : new int[] {Integer.MIN_VALUE, -1, 7, Integer.MAX_VALUE}) {
                refuses("5: what = " + what + " of kind " + i, Benches::bench, x -> x.look(at, what), -7, 0);
            }
            for (int what = 5; what <= 6 && i != 2; what++) {
                int each = what;
                refuses("5: what = " + what + " of kind " + i, Benches::bench, x -> x.look(at, each), -5, 0);
            }
        }
        asks("5: p of an OVER", Benches::bench, x -> x.look(4, 5), 1);
        asks("5: q of an OVER", Benches::bench, x -> x.look(4, 6), 2);
        refuses("5: p of what was an OVER", x -> {
            x.over(1, 2);
            x.drop();
            x.round(3, 1, 0, 2);
        }, x -> x.look(0, 5), -5, 0);
        refuses("5: q of an OVER's other side", Benches::bench, x -> x.look(7, 6), -5, 0);
    }

    /** Numbers that look like refusals are none. */
    private static void promise5TellsZeroUnrefused() {
        asks("5: p = 0", x -> x.over(0, 1), x -> x.look(0, 5), 0);
        asks("5: a = 0", x -> x.round(0, 5, 1, 0), x -> x.look(0, 1), 0);
        for (int by = -2; by >= -8; by--) {
            int b = by;
            asks("5: b = " + by, x -> x.round(0, b, 1, 0), x -> x.look(0, 2), by);
        }
    }

    // ---- 6, 7

    private static void promise6Product() {
        asks("6: the last one with itself", rounds(MOST), x -> x.product(19, 19), 2);
        asks("6: the first with the last", rounds(MOST), x -> x.product(0, 19), -359);
        int[] wrong = {Integer.MIN_VALUE, -1, 3, 19, 20, Integer.MAX_VALUE};
        for (int edge : wrong) {
            refuses("6: product(" + edge + ", 2)", rounds(3), x -> x.product(edge, 2), -3, 0);
            refuses("6: product(2, " + edge + ")", rounds(3), x -> x.product(2, edge), -3, 0);
            refuses("6: both " + edge, rounds(3), x -> x.product(edge, edge), -3, 0);
            refuses("7: meet(" + edge + ", 2)", rounds(3), x -> x.meet(edge, 2), -3);
            refuses("7: meet(2, " + edge + ")", rounds(3), x -> x.meet(2, edge), -3);
            refuses("7: both " + edge, rounds(3), x -> x.meet(edge, edge), -3);
        }
        long most = 3_999_999_999_999_999_998L;
        Setup byX = x -> {
            x.round(BILLION, BILLION, BILLION, 1);
            x.round(BILLION, BILLION, -BILLION, 1);
            x.round(-BILLION, -BILLION, -BILLION, -1);
        };
        asks("6: as far below as can be, by x", byX, x -> x.product(0, 1), -most);
        asks("6: as far above as can be, by x", byX, x -> x.product(1, 2), most);
        asks("6: its other side", byX, x -> x.product(0, 2), -2);
        Setup byY = x -> {
            x.round(BILLION, BILLION, 1, BILLION);
            x.round(BILLION, BILLION, 1, -BILLION);
            x.round(-BILLION, -BILLION, -1, -BILLION);
        };
        asks("6: as far below as can be, by y", byY, x -> x.product(0, 1), -most);
        asks("6: as far above as can be, by y", byY, x -> x.product(1, 2), most);
        asks("6: its other side, by y", byY, x -> x.product(0, 2), -2);
        asks("6: of a line and a point far away", x -> {
            x.round(BILLION, 0, 0, 1);
            x.round(0, BILLION, 0, 1);
        }, x -> x.product(0, 1), 2 - 1_000_000_000_000_000_000L);
    }

    /** "1 TOUCH: -2; 2 INNER: 2; 3 SQUARE: 0; 4 CROSS: -1, 1; 5 APART: below -2; 6 WITHIN: above 2". */
    private static void promise7Products() {
        int[] meetings = {5, 5, 1, 4, 3, 4, 2, 6, 6};
        for (int product = -4; product <= 4; product++) {
            int b = -product;
            Setup pair = x -> {
                x.round(1, -1, 0, 0);
                x.round(0, b, 1, 0);
            };
            asks("7: the product is " + product, pair, x -> x.product(0, 1), product);
            asks("7: meet by " + product, pair, x -> x.meet(0, 1), meetings[product + 4]);
            asks("7: meet by " + product + ", the other way round", pair, x -> x.meet(1, 0), meetings[product + 4]);
        }
        Setup far = x -> {
            x.round(BILLION, BILLION, 1, BILLION);
            x.round(BILLION, BILLION, 1, -BILLION);
            x.flip(0);
        };
        asks("7: as far apart as can be", far, x -> x.meet(0, 1), 5);
        asks("7: as far within as can be", far, x -> x.meet(1, 2), 6);
        asks("7: the two ends", rounds(MOST), x -> x.meet(0, 19), 5);
    }

    /** "0 ALIKE (the same numbers)", "INNER: 2 (and not ALIKE)". */
    private static void promise7Alike() {
        Setup four = x -> {
            x.over(0, 1);
            x.round(2, 0, 0, 1);
            x.round(1, 0, 0, 1);
            x.round(0, 0, 0, 1);
            x.round(0, 1, 0, 1);
            x.round(0, 0, 0, -1);
        };
        asks("7: with itself", four, x -> x.meet(0, 0), 0);
        asks("7: the same numbers, of another kind", four, x -> x.meet(0, 1), 0);
        asks("7: a alone is another", four, x -> x.meet(1, 2), 2);
        asks("7: a is 0 alone", four, x -> x.meet(2, 3), 2);
        asks("7: b alone is another", four, x -> x.meet(3, 4), 2);
        asks("7: the other side touches", four, x -> x.meet(3, 5), 1);
        asks("7: x and y alone are others", x -> {
            x.round(2, 2, 1, 2);
            x.round(2, 2, 2, 1);
        }, x -> x.meet(0, 1), 3);
    }

    // ---- 8

    private static void mirrors(String what, int[] round, int[] other, int... comes) {
        Setup pair = x -> {
            x.round(round[0], round[1], round[2], round[3]);
            x.round(other[0], other[1], other[2], other[3]);
        };
        if (comes.length == 0) {
            refuses(what, pair, x -> x.mirror(0, 1), -8);
            return;
        }
        answers(what, pair, x -> x.mirror(0, 1), 2);
        RoundKiss x = made(pair);
        x.mirror(0, 1);
        numbersAre(what, x, 2, 3, comes[0], comes[1], comes[2], comes[3]);
        numbersAre(what + ", the first stays", x, 0, round[0] == 0 ? 1 : 0, round[0], round[1], round[2], round[3]);
    }

    /** "FULL: a number beyond 10^9": a and b at the limit, one inside and one beyond it. */
    private static void promise8MirrorNumbers() {
        int[] own = {1, 0, 1, -1, 0, -1};
        int[] others = {HALF, HALF, HALF + 1, -HALF, -HALF, -HALF - 1};
        for (int i = 0; i < own.length; i++) {
            int comes = own[i] - 2 * others[i];
            boolean fits = Math.abs((long) comes) <= BILLION;
            mirrors("8: a of " + comes, new int[] {own[i], 0, 1, 0}, new int[] {others[i], 0, 1, 0},
                    fits ? new int[] {comes, 0, -1, 0} : new int[0]);
            mirrors("8: b of " + comes, new int[] {0, own[i], 0, 1}, new int[] {0, others[i], 0, 1},
                    fits ? new int[] {0, comes, 0, -1} : new int[0]);
        }
        for (int at = BILLION - 1; at <= BILLION; at++) {
            for (int sign = -1; sign <= 1; sign += 2) {
                mirrors("8: x of " + -sign * at, new int[] {at, at, sign * at, 1}, new int[] {0, 0, 1, 0},
                        at, at, -sign * at, 1);
                mirrors("8: y of " + -sign * at, new int[] {at, at, 1, sign * at}, new int[] {0, 0, 0, 1},
                        at, at, 1, -sign * at);
            }
        }
        int[] wrong = {Integer.MIN_VALUE, -1, 3, 19, 20, Integer.MAX_VALUE};
        for (int edge : wrong) {
            refuses("8: mirror(" + edge + ", 2)", rounds(3), x -> x.mirror(edge, 2), -3);
            refuses("8: mirror(2, " + edge + ")", rounds(3), x -> x.mirror(2, edge), -3);
        }
        answers("8: the last in itself", rounds(3), x -> x.mirror(2, 2), 3);
    }

    /** Products far above 10^9, where numbers that come fit and where they don't. */
    private static void promise8GreatProducts() {
        int[] corner = {BILLION, BILLION, BILLION, 1};
        mirrors("8: a product of 10^9 that fits", corner, new int[] {0, 1, 1, 0}, BILLION, 0, 0, 1);
        mirrors("8: a product of 3 10^9", corner, new int[] {0, -1, 1, 0});
        mirrors("8: a product of -10^18", new int[] {BILLION, 0, 0, 1}, new int[] {0, BILLION, 0, 1});
        mirrors("8: a product of 10^18", new int[] {BILLION, 0, 0, 1}, new int[] {0, -BILLION, 0, 1});
        mirrors("8: a product of -4 10^18", corner, new int[] {BILLION, BILLION, -BILLION, 1});
        mirrors("8: a product of 4 10^18", corner, new int[] {-BILLION, -BILLION, BILLION, -1});
        mirrors("8: in its other side", corner, new int[] {-BILLION, -BILLION, -BILLION, -1},
                -BILLION, -BILLION, -BILLION, -1);
        mirrors("8: a product of 0", new int[] {BILLION, 0, 0, 1}, new int[] {0, 0, 1, 0}, BILLION, 0, 0, 1);
        // 2 - 2^33 wraps around to 2 in an int.
        mirrors("8: a product of 2 - 2^33", new int[] {1 << 17, 0, 0, 1}, new int[] {0, 1 << 16, 0, 1});
    }

    /** Only the numbers of the two count for "a number beyond 10^9", not those of rounds beside them. */
    private static void promise8RoundsBeside() {
        Setup far = x -> {
            x.round(BILLION, 0, 0, 1);
            x.round(3, 1, 0, 2);
            x.round(BILLION, 0, 0, 1);
            x.round(2, 0, 1, 0);
            x.round(BILLION, 0, 0, 1);
        };
        answers("8: beside rounds at the limit", far, x -> x.mirror(1, 3), 5);
        answers("8: beside rounds at the limit, the other way round", far, x -> x.mirror(3, 1), 5);
        answers("8: in itself, beside rounds at the limit", far, x -> x.mirror(3, 3), 5);
    }

    /** "3 TURNED: made by mirror() (whatever its numbers are)". */
    private static void promise8Kinds() {
        mirrors("8: a LINE stays, TURNED", new int[] {0, 0, 1, 0}, new int[] {0, 0, 0, 1}, 0, 0, 1, 0);
        mirrors("8: a becomes 0, TURNED", new int[] {2, 0, 1, 0}, new int[] {1, 0, 1, 0}, 0, 0, -1, 0);
        mirrors("8: the numbers of an OVER, TURNED", new int[] {-2, 0, 0, -1}, new int[] {2, 0, 0, 1}, 2, 0, 0, 1);
        refuses("8: p of a TURNED with the numbers of an OVER", x -> {
            x.round(-2, 0, 0, -1);
            x.over(0, 1);
            x.mirror(0, 1);
        }, x -> x.look(2, 5), -5, 0);
    }

    // ---- 9

    private static void promise9Flip() {
        int[] wrong = {Integer.MIN_VALUE, -1, 3, 19, 20, Integer.MAX_VALUE};
        for (int edge : wrong) {
            refuses("9: flip(" + edge + ")", rounds(3), x -> x.flip(edge), -3);
        }
        answers("9: the first", rounds(3), x -> x.flip(0), 3);
        answers("9: the last", rounds(3), x -> x.flip(2), 3);
        int[][] some = {{-1, 0, 0, 1}, {0, 0, 0, 1}, {1, 0, 0, 1}, {0, BILLION, 1, 0}, {0, -BILLION, 1, 0},
            {BILLION, BILLION, BILLION, 1}, {-BILLION, -BILLION, 1, -BILLION}};
        for (int[] r : some) {
            RoundKiss x = new RoundKiss();
            x.round(r[0], r[1], r[2], r[3]);
            Due.is("9: flip() of a = " + r[0], x.flip(0), 1);
            numbersAre("9: the other side of a = " + r[0], x, 1, r[0] == 0 ? 1 : 0, -r[0], -r[1], -r[2], -r[3]);
            numbersAre("9: it stays", x, 0, r[0] == 0 ? 1 : 0, r[0], r[1], r[2], r[3]);
        }
        RoundKiss x = new RoundKiss();
        x.over(0, 1);
        x.flip(0);
        x.flip(1);
        Due.is("9: twice the other side of an OVER is PLAIN", x.look(2, 0), 0);
        x.round(1, 0, 0, 1);
        x.mirror(2, 3);
        Due.is("9: a TURNED with a = 0", x.look(4, 1), 0);
        x.flip(4);
        Due.is("9: its other side is a LINE", x.look(5, 0), 1);
    }
}
