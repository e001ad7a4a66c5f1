/** Promises 10 to 20: each sentence that names a boundary, just inside it, at it and just beyond it. */
public final class KissBoundsTest extends Benches {
    private static final int MOST = 6;

    /** A swap at a place of these makes b there 10^9 - 1, 10^9 and 10^9 + 1; no other number comes near that. */
    private static final int[][] TO_JUST_INSIDE = {{0, 6586, 0, -1}, {4, 249980686, 28748, -13171},
        {0, -6585, 0, 1}, {4, 250009435, 28750, -13171}};
    private static final int INSIDE_PLACE = 2;
    private static final int[][] TO_THE_LIMIT = {{-2, -105272112, -13775, -4560}, {3, 157915056, 20663, 6840},
        {7, 368440852, 48211, 15962}, {6, 315788788, 41323, 13680}};
    private static final int LIMIT_PLACE = 1;
    private static final int[][] TO_JUST_BEYOND = {{-6, -193557520, -33360, -6961}, {10, 322594320, 55600, 11601},
        {15, 483897281, 83400, 17404}, {19, 612911841, 105638, 22044}};
    private static final int BEYOND_PLACE = 2;

    /** The sum of these bends is above 2^31. */
    static final int[][] HIGH = {{-454410317, -15, -82560, -34}, {969419682, 32, 176129, 72},
        {969397666, 32, 176127, 72}, {999702703, 33, 181632, 76}};
    private static final long HIGH_SUM = 2484109734L;

    /** Bends 0, 0, 1, 1: no height above 0 is below theirs. */
    private static final int[][] LOW = {{0, 0, 0, -1}, {0, 4, 0, 1}, {1, 0, 0, 1}, {1, 4, 2, 1}};

    public static void main(String[] args) {
        promise10Digits();
        promise10Touch();
        promise10Full();
        promise11Part();
        promise12Of();
        promise13Height();
        promise14Fourth();
        promise15Place();
        promise15Limit();
        promise16Length();
        promise16Digits();
        promise16TillFull();
        promise17Height();
        promise17Less();
        promise18Led();
        promise19Same();
        promise20Shut();
        kissBeyond();
        Due.end("KissBoundsTest");
    }

    // ---- 10

    /** "BEYOND: digits, more than four". */
    private static void promise10Digits() {
        Setup four = kisses(0);
        answers("10: all four rounds", four, x -> x.kiss(digits(0, 1, 2, 3)), 0);
        answers("10: a highest digit 0", four, x -> x.kiss(digits(3, 2, 1, 0)), 0);
        for (int place = 0; place < 4; place++) {
            int[] d = {0, 1, 2, 3};
            d[place] = 4;
            refuses("10: digit 4 of four rounds at " + place, four, x -> x.kiss(digits(d[0], d[1], d[2], d[3])), -3);
            d[place] = 19;
            refuses("10: digit 19 of four rounds at " + place, four, x -> x.kiss(digits(d[0], d[1], d[2], d[3])), -3);
        }
        Setup twenty = x -> {
            rounds(16).on(x);
            kisses(0).on(x);
        };
        answers("10: digits 16 .. 19", twenty, x -> x.kiss(digits(16, 17, 18, 19)), 0);
        answers("10: digits 19 .. 16", twenty, x -> x.kiss(digits(19, 18, 17, 16)), 0);
        refuses("10: 159999 is four digits, one round four times", twenty, x -> x.kiss(159999), -7);
        refuses("10: 160000 is five digits", twenty, x -> x.kiss(160000), -3);
        refuses("10: five digits, the lower four a kiss", twenty, x -> x.kiss(160000 + digits(16, 17, 18, 19)), -3);
        refuses("10: -1", twenty, x -> x.kiss(-1), -3);
        refuses("10: -160000", twenty, x -> x.kiss(-160000), -3);
        refuses("10: the least int", twenty, x -> x.kiss(Integer.MIN_VALUE), -3);
        refuses("10: the greatest int", twenty, x -> x.kiss(Integer.MAX_VALUE), -3);
        refuses("10: one dropped", x -> {
            twenty.on(x);
            x.drop();
        }, x -> x.kiss(digits(16, 17, 18, 19)), -3);
        refuses("10: BEYOND ahead of NO", four, x -> x.kiss(digits(0, 0, 0, 4)), -3);
        refuses("10: BEYOND ahead of FULL", kisses(MOST), x -> x.kiss(digits(0, 1, 2, 4)), -3);
        refuses("10: BEYOND by five digits ahead of FULL", kisses(MOST), x -> x.kiss(160000), -3);
    }

    /** "NO: two that don't TOUCH": each pair by itself, the others touch. */
    private static void promise10Touch() {
        for (int i = 0; i < 4; i++) {
            for (int j = 0; j < 4; j++) {
                int[] d = {0, 1, 2, 3};
                d[j] = i;
                if (i != j) {
                    refuses("10: one at " + i + " and " + j, kisses(1), x -> x.kiss(digits(d[0], d[1], d[2], d[3])), -7);
                }
            }
        }
        // Products -2, -2 and 1.
        refuses("10: one pair that crosses", x -> {
            kissOf(LOW).on(x);
            x.round(1, 1, 1, 1);
        }, x -> x.kiss(digits(0, 1, 2, 4)), -7);
        refuses("10: one pair apart", x -> {
            kissOf(LOW).on(x);
            x.round(1, 16, 4, 1);
        }, x -> x.kiss(digits(0, 1, 2, 4)), -7);
        refuses("10: three touch the other side of one", x -> {
            kissOf(LOW).on(x);
            x.flip(3);
        }, x -> x.kiss(digits(0, 1, 2, 4)), -7);
        answers("10: all other sides", x -> {
            kissOf(LOW).on(x);
            for (int i = 0; i < 4; i++) {
                x.flip(i);
            }
        }, x -> x.kiss(digits(4, 5, 6, 7)), 1);
        answers("10: of a TURNED, a LINE, two OVERS", x -> {
            kissOf(LOW).on(x);
            x.over(0, 1);
            x.over(1, 1);
            x.mirror(0, 0);
            x.mirror(6, 6);
            x.round(0, 2, 0, 1);
        }, x -> x.kiss(digits(7, 8, 4, 5)), 1);
    }

    /** "KISSES 0 .. 5": the sixth comes, one more is FULL. */
    private static void promise10Full() {
        answers("10: the fifth", kisses(MOST - 2), x -> x.kiss(digits(0, 1, 2, 3)), MOST - 2);
        answers("10: the sixth", kisses(MOST - 1), x -> x.kiss(digits(0, 1, 2, 3)), MOST - 1);
        refuses("10: a seventh", kisses(MOST), x -> x.kiss(digits(0, 1, 2, 3)), -8);
        refuses("10: NO ahead of FULL", kisses(MOST), x -> x.kiss(digits(0, 1, 2, 2)), -7);
        answers("10: where one has parted", x -> {
            kisses(MOST).on(x);
            x.part();
        }, x -> x.kiss(digits(0, 1, 2, 3)), MOST - 1);
    }

    // ---- 11

    private static void promise11Part() {
        answers("11: of six", kisses(MOST), x -> x.part(), MOST - 1);
        answers("11: of two", kisses(2), x -> x.part(), 1);
        answers("11: of one", kisses(1), x -> x.part(), 0);
        refuses("11: of none", kisses(0), x -> x.part(), -2);
        refuses("11: of none, all parted", x -> {
            rich(x);
            x.part();
            x.part();
            x.part();
        }, x -> x.part(), -2);
    }

    // ---- 12

    private static void promise12Of() {
        int[] last = {7, 4, 2, -5};
        for (int what = 0; what < 4; what++) {
            int each = what;
            asks("12: of(1, 3, " + what + ")", Benches::threeKisses, x -> x.of(1, 3, each), last[what]);
        }
        asks("12: place 0", Benches::threeKisses, x -> x.of(1, 0, 3), 1);
        for (int edge : new int[] {Integer.MIN_VALUE, -1, 4, Integer.MAX_VALUE}) {
            refuses("12: place " + edge, Benches::rich, x -> x.of(1, edge, 0), -3, 0);
            refuses("12: what = " + edge, Benches::rich, x -> x.of(1, 3, edge), -7, 0);
            refuses("12: BEYOND of the place ahead of NO, " + edge, Benches::rich, x -> x.of(1, edge, edge), -3, 0);
            refuses("12: BEYOND of the kiss ahead of NO, " + edge, Benches::rich, x -> x.of(3, 0, edge), -3, 0);
        }
        // Numbers that look like refusals are none.
        asks("12: a number 0", Benches::threeKisses, x -> x.of(1, 0, 1), 0);
        asks("12: a bend of -2", Benches::threeKisses, x -> x.of(1, 0, 0), -2);
        asks("12: a bend of -3", Benches::threeKisses, x -> x.of(2, 1, 0), -3);
        asks("12: a bend of -7", Benches::threeKisses, x -> x.of(2, 3, 0), -7);
    }

    // ---- 13

    private static void promise13Height() {
        asks("13: the least above 0", kissOf(LOW), x -> x.height(0), 2);
        asks("13: the greatest below 0", kissOf(otherSides(LOW)), x -> x.height(0), -2);
        asks("13: above 2^31", kissOf(HIGH), x -> x.height(0), HIGH_SUM);
        asks("13: below -2^31", kissOf(otherSides(HIGH)), x -> x.height(0), -HIGH_SUM);
    }

    // ---- 14

    private static void promise14Fourth() {
        for (int edge : new int[] {Integer.MIN_VALUE, -1, 4, Integer.MAX_VALUE}) {
            refuses("14: place " + edge, Benches::rich, x -> x.fourth(1, edge), -3, 0);
        }
        asks("14: place 0", Benches::threeKisses, x -> x.fourth(1, 0), 34);
        asks("14: place 3", Benches::threeKisses, x -> x.fourth(1, 3), 7);
        fourthAt(insideOut(TO_JUST_INSIDE), INSIDE_PLACE, BILLION - 1);
        fourthAt(insideOut(TO_THE_LIMIT), LIMIT_PLACE, BILLION);
        fourthAt(insideOut(TO_JUST_BEYOND), BEYOND_PLACE, BILLION + 1);
        for (int place = 0; place < 4; place++) {
            fourthAt(HIGH, place, 2 * HIGH_SUM - 3L * HIGH[place][0]);
        }
        asks("14: a bend of 0", x -> {
            kissOf(LOW).on(x);
            x.swap(0, 0);
        }, x -> x.fourth(0, 0), 0);
        asks("14: a bend of -2", x -> {
            threeKisses(x);
            x.swap(1, 0);
        }, x -> x.fourth(1, 0), -2);
    }

    /** Its own BEND may be beyond 10^9: nothing is refused. */
    private static void fourthAt(int[][] four, int place, long bend) {
        asks("14: a bend of " + bend, kissOf(four), x -> x.fourth(0, place), bend);
        asks("14: a bend of " + -bend, kissOf(otherSides(four)), x -> x.fourth(0, place), -bend);
    }

    // ---- 15

    private static void promise15Place() {
        for (int edge : new int[] {Integer.MIN_VALUE, -1, 4, Integer.MAX_VALUE}) {
            refuses("15: place " + edge, Benches::rich, x -> x.swap(1, edge), -3);
        }
        for (int place = 0; place < 4; place++) {
            int each = place;
            answers("15: place " + place, Benches::rich, x -> x.swap(1, each), 1);
        }
    }

    /**
     * "If a number would be beyond 10^9 the SWAP isn't done: FULL". x or y alone can't be: by the law their squares
     * are at most 1 + a b.
     */
    private static void promise15Limit() {
        for (int turn = 0; turn < 4; turn++) {
            swapTo(turned(TO_JUST_INSIDE, turn), INSIDE_PLACE, turn, BILLION - 1);
            swapTo(turned(TO_THE_LIMIT, turn), LIMIT_PLACE, turn, BILLION);
            int[][] beyond = turned(TO_JUST_BEYOND, turn);
            refuses("15: 10^9 + 1, turn " + turn, kissOf(beyond), x -> x.swap(0, BEYOND_PLACE), -8);
            answers("15: another place of it, turn " + turn, kissOf(beyond), x -> x.swap(0, 3), 1);
        }
        for (int place = 0; place < 3; place++) {
            int each = place;
            refuses("15: a bend above 2^31", kissOf(HIGH), x -> x.swap(0, each), -8);
            refuses("15: a bend below -2^31", kissOf(otherSides(HIGH)), x -> x.swap(0, each), -8);
        }
    }

    /** 0: b comes, 1: a comes, 2 and 3: the same of the other sides. */
    private static int[][] turned(int[][] four, int turn) {
        int[][] seen = turn % 2 == 0 ? four : insideOut(four);
        return turn < 2 ? seen : otherSides(seen);
    }

    private static void swapTo(int[][] four, int place, int turn, int number) {
        int due = turn < 2 ? number : -number;
        answers("15: " + due + ", turn " + turn, kissOf(four), x -> x.swap(0, place), 1);
        RoundKiss x = made(kissOf(four));
        x.swap(0, place);
        Due.is("15: it is " + due + ", turn " + turn, x.of(0, place, turn % 2 == 0 ? 1 : 0), due);
        Due.is("15: and back, turn " + turn, x.swap(0, place), 1);
        for (int what = 0; what < 4; what++) {
            Due.is("15: as it was, turn " + turn, x.of(0, place, what), four[place][what]);
        }
    }

    // ---- 16

    /** "n SWAPS (0 .. 15)", "BELOW: n; NO: n". */
    private static void promise16Length() {
        asks("16: n = 0", Benches::rich, x -> x.word(1, 0, 0), 0);
        answers("16: n = 1", Benches::rich, x -> x.word(1, 0, 1), 1);
        answers("16: n = 14", Benches::rich, x -> x.word(1, 0, 14), 14);
        answers("16: n = 15", Benches::rich, x -> x.word(1, 0, 15), 15);
        refuses("16: n = 16", Benches::rich, x -> x.word(1, 0, 16), -7);
        refuses("16: n = 17", Benches::rich, x -> x.word(1, 0, 17), -7);
        refuses("16: n = 32", Benches::rich, x -> x.word(1, 0, 32), -7);
        refuses("16: n the greatest int", Benches::rich, x -> x.word(1, 0, Integer.MAX_VALUE), -7);
        refuses("16: n = -1", Benches::rich, x -> x.word(1, 0, -1), -4);
        refuses("16: n the least int", Benches::rich, x -> x.word(1, 0, Integer.MIN_VALUE), -4);
        refuses("16: BEYOND ahead of BELOW", Benches::rich, x -> x.word(3, 0, -1), -3);
        refuses("16: BEYOND ahead of NO", Benches::rich, x -> x.word(-1, 0, 16), -3);
        refuses("16: BEYOND ahead of NO of digits", Benches::rich, x -> x.word(-1, 4, 1), -3);
        refuses("16: BELOW ahead of NO", Benches::rich, x -> x.word(1, 4, -1), -4);
        refuses("16: BELOW ahead of NO of digits below 0", Benches::rich, x -> x.word(1, -1, -1), -4);
    }

    /** "NO: digits beyond n": 4^n - 1 is the last that isn't. */
    private static void promise16Digits() {
        for (int n = 0; n <= 15; n++) {
            int each = n;
            int end = 1 << (2 * n);
            answers("16: all digits 3, n = " + n, Benches::rich, x -> x.word(1, end - 1, each), n);
            for (int digits : new int[] {end, end + 1, 2 * end - 1, Integer.MAX_VALUE, -1, -end, Integer.MIN_VALUE}) {
                refuses("16: digits " + digits + ", n = " + n, Benches::rich, x -> x.word(1, digits, each), -7);
            }
        }
        RoundKiss x = made(kisses(1));
        Due.is("16: the lowest digit is first", x.word(0, 3 * 4, 2), 2);
        bendsAre("16: place 0, then place 3", x, 0, 15, 2, 2, 35);
        Due.is("16: a highest digit alone", x.word(0, 3 << 28, 15), 15);
        bendsAre("16: fourteen at place 0, then place 3", x, 0, 15, 2, 2, 3);
    }

    /** "how many were done (till one is FULL)". */
    private static void promise16TillFull() {
        Setup limit = kissOf(TO_THE_LIMIT);
        Setup beyond = kissOf(TO_JUST_BEYOND);
        answers("16: a word to 10^9", limit, x -> x.word(0, 1, 1), 1);
        answers("16: there, back and there", limit, x -> x.word(0, 1 + 4 + 16, 3), 3);
        asks("16: a word to 10^9 + 1", beyond, x -> x.word(0, 2, 1), 0);
        asks("16: none behind it is done", beyond, x -> x.word(0, 2 + 3 * 4, 2), 0);
        answers("16: all but the last one", beyond, x -> x.word(0, 3 + 3 * 4 + 2 * 16, 3), 2);
        int last = 2 << 28;
        for (int i = 0; i < 14; i++) {
            last |= 3 << (2 * i);
        }
        int fifteen = last;
        asks("16: fourteen of fifteen, and as it was", beyond, x -> x.word(0, fifteen, 15), 14);
        RoundKiss x = made(beyond);
        Due.is("16: one, then FULL, then one that would fit", x.word(0, 3 + 2 * 4 + 3 * 16, 3), 1);
        RoundKiss swapped = made(beyond);
        swapped.swap(0, 3);
        for (int place = 0; place < 4; place++) {
            for (int what = 0; what < 4; what++) {
                Due.is("16: the one that was done stays", x.of(0, place, what), swapped.of(0, place, what));
            }
        }
        Due.is("16: the word was not refused", x.status(-8), 0);
    }

    // ---- 17, 18

    /** "NO: HEIGHT", which is even and, where all touch, never 0. */
    private static void promise17Height() {
        asks("17: a height of 2", kissOf(LOW), x -> x.least(0), 0);
        refuses("17: a height of -2", kissOf(otherSides(LOW)), x -> x.least(0), -7);
        asks("17: a height above 2^31", kissOf(HIGH), x -> x.least(0), 0);
        refuses("17: a height below -2^31", kissOf(otherSides(HIGH)), x -> x.least(0), -7);
    }

    /** "as long as a SWAP .. makes that less": one that keeps the greatest BEND isn't done. */
    private static void promise17Less() {
        asks("17: 3 stays 3", kisses(1), x -> x.least(0), 0);
        asks("17: 7 stays 7", x -> {
            threeKisses(x);
            x.swap(1, 3);
        }, x -> x.least(1), 0);
        asks("17: two greatest stay", kissOf(LOW), x -> x.least(0), 0);
        for (int place = 0; place < 4; place++) {
            RoundKiss x = made(kisses(1));
            x.swap(0, place);
            // The swap at place 3 keeps the bend 3, so nothing leads back from it.
            Due.is("17: a swap at " + place + " and back", x.least(0), place == 3 ? 0 : 1);
            Due.is("17: led at " + place, x.led(), place == 3 ? 0 : place);
            bendsAre("17: back from " + place, x, 0, -1, 2, 2, 3);
        }
        RoundKiss far = made(kissOf(insideOut(TO_THE_LIMIT)));
        RoundKiss further = made(kissOf(insideOut(TO_THE_LIMIT)));
        int swaps = far.least(0);
        further.swap(0, LIMIT_PLACE);
        Due.is("17: one more from a bend of 10^9", further.least(0), swaps + 1);
        for (int place = 0; place < 4; place++) {
            Due.is("17: to the same bends", further.of(0, place, 0), far.of(0, place, 0));
        }
    }

    /** "the first SWAPS (15 at most)", "0 ahead of any", "the latest least() that wasn't refused". */
    private static void promise18Led() {
        asks("18: ahead of any", kisses(1), x -> x.led(), 0);
        for (int swaps = 14; swaps <= 17; swaps++) {
            int k = swaps;
            RoundKiss x = made(y -> longKiss(y, k));
            Due.is("18: least() in " + swaps, x.least(0), swaps);
            int places = 0;
            for (int i = 0; i < Math.min(15, swaps); i++) {
                places |= (i % 2 == 0 ? 3 : 2) << (2 * i);
            }
            Due.is("18: led() of " + swaps, x.led(), places);
        }
        asks("18: a refused least() leaves it", x -> {
            rich(x);
            x.least(2);
            x.least(3);
            x.least(-1);
        }, x -> x.led(), 1);
        asks("18: a least() of no swaps", x -> {
            rich(x);
            x.least(0);
        }, x -> x.led(), 0);
        asks("18: swaps, words, sames and packings leave it", x -> {
            rich(x);
            x.swap(1, 2);
            x.word(1, 3, 1);
            x.same(0, 1);
            x.shut(1);
            x.count(1, 30);
        }, x -> x.led(), 1);
    }

    // ---- 19, 20

    private static Setup lowAndItsOtherSide() {
        return x -> {
            kissOf(LOW).on(x);
            for (int i = 0; i < 4; i++) {
                x.flip(i);
            }
            x.kiss(digits(4, 5, 6, 7));
        };
    }

    /** "BEYOND, NO: HEIGHT of either". */
    private static void promise19Same() {
        asks("19: a height of 2", lowAndItsOtherSide(), x -> x.same(0, 0), 1);
        refuses("19: -2 of the other", lowAndItsOtherSide(), x -> x.same(0, 1), -7);
        refuses("19: -2 of the first", lowAndItsOtherSide(), x -> x.same(1, 0), -7);
        refuses("19: -2 of both", lowAndItsOtherSide(), x -> x.same(1, 1), -7);
        asks("19: heights above 2^31", kissOf(HIGH), x -> x.same(0, 0), 1);
        refuses("19: BEYOND of the other ahead of NO", lowAndItsOtherSide(), x -> x.same(1, 2), -3);
        refuses("19: BEYOND of the first ahead of NO", lowAndItsOtherSide(), x -> x.same(2, 1), -3);
        asks("19: other places", x -> {
            kisses(1).on(x);
            x.kiss(digits(3, 2, 0, 1));
            x.swap(1, 2);
        }, x -> x.same(0, 1), 1);
        // 0, 0, 1, 1 and 0, 0, 4, 4 have 0 as often, and nothing else.
        asks("19: one bend as often", x -> {
            kissOf(LOW).on(x);
            x.round(0, 0, 0, -1);
            x.round(0, 1, 0, 1);
            x.round(4, 0, 0, 1);
            x.round(4, 1, 2, 1);
            x.kiss(digits(4, 5, 6, 7));
        }, x -> x.same(0, 1), 0);
    }

    /** "SHUT, if a BEND of the LEAST is below 0": 0 is not, -1 is. */
    private static void promise20Shut() {
        asks("20: a least bend of 0", kissOf(LOW), x -> x.shut(0), 0);
        asks("20: a least bend of -1", kisses(1), x -> x.shut(0), 1);
        asks("20: a least bend far below 0", kissOf(HIGH), x -> x.shut(0), 1);
        for (int place = 0; place < 4; place++) {
            int[][] four = {{2, 0, 1, 0}, {2, 0, -1, 0}, {3, 1, 0, 2}, {3, 1, 0, 2}};
            for (int i = 3; i > place; i--) {
                four[i] = four[i - 1];
            }
            four[place] = new int[] {-1, 1, 0, 0};
            asks("20: -1 at place " + place, kissOf(four), x -> x.shut(0), 1);
        }
        asks("20: the kiss has no bend below 0, its least has", x -> {
            kisses(1).on(x);
            x.swap(0, 0);
        }, x -> x.shut(0), 1);
        asks("20: the kiss has no bend 0, its least has two", x -> {
            kissOf(LOW).on(x);
            x.word(0, 0 + 1 * 4, 2);
        }, x -> x.shut(0), 0);
        refuses("20: a height of -2", kissOf(otherSides(LOW)), x -> x.shut(0), -7);
        refuses("20: a height below -2^31", kissOf(otherSides(HIGH)), x -> x.shut(0), -7);
    }

    // ---- BEYOND of a kiss

    private interface OnKiss {
        long on(RoundKiss x, int kiss);
    }

    private static void kissesReach(String what, OnKiss call, boolean tellsZero) {
        for (int many : new int[] {1, 2, MOST - 1, MOST}) {
            for (int kiss : new int[] {0, many - 1}) {
                RoundKiss x = made(kisses(many));
                call.on(x, kiss);
                Due.is(what + " of kiss " + kiss + " of " + many, x.status(-3), 0);
            }
            for (int kiss : new int[] {Integer.MIN_VALUE, -1, many, MOST, Integer.MAX_VALUE}) {
                refuses(what + " of kiss " + kiss + " of " + many, kisses(many), x -> call.on(x, kiss), -3,
                        tellsZero ? 0 : -3);
            }
        }
        refuses(what + " of a kiss that has parted", x -> {
            rich(x);
            x.part();
        }, x -> call.on(x, 2), -3, tellsZero ? 0 : -3);
    }

    private static void kissBeyond() {
        kissesReach("12: of()", (x, kiss) -> x.of(kiss, 0, 0), true);
        kissesReach("13: height()", (x, kiss) -> x.height(kiss), true);
        kissesReach("14: fourth()", (x, kiss) -> x.fourth(kiss, 0), true);
        kissesReach("15: swap()", (x, kiss) -> x.swap(kiss, 0), false);
        kissesReach("16: word()", (x, kiss) -> x.word(kiss, 0, 1), false);
        kissesReach("17: least()", (x, kiss) -> x.least(kiss), false);
        kissesReach("19: same() of the first", (x, kiss) -> x.same(kiss, 0), false);
        kissesReach("19: same() of the other", (x, kiss) -> x.same(0, kiss), false);
        kissesReach("20: shut()", (x, kiss) -> x.shut(kiss), false);
        kissesReach("21: count()", (x, kiss) -> x.count(kiss, 3), false);
        kissesReach("22: bends()", (x, kiss) -> x.bends(kiss, 3), false);
        kissesReach("23: next()", (x, kiss) -> x.next(kiss, 3), false);
        kissesReach("24: rests()", (x, kiss) -> x.rests(kiss, 3), false);
        kissesReach("25: sum()", (x, kiss) -> x.sum(kiss, 3, 0), true);
        kissesReach("33: lay()", (x, kiss) -> x.lay(kiss), false);
    }
}
