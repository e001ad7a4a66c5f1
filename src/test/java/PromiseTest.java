/** One method a promise: ordinary inputs, the edges that the document names, and each refusal. */
public final class PromiseTest extends Benches {
    private static final int[] INT_EDGES = {Integer.MIN_VALUE, -1, Integer.MAX_VALUE};

    public static void main(String[] args) {
        promise1NewObject();
        promise2Round();
        promise3Over();
        promise4Drop();
        promise5Look();
        promise6Product();
        promise7Meet();
        promise8Mirror();
        promise9Flip();
        promise10Kiss();
        promise11Part();
        promise12Of();
        promise13Height();
        promise14Fourth();
        promise15Swap();
        promise16Word();
        promise17Least();
        promise18Led();
        promise19Same();
        promise20Shut();
        promise21Count();
        promise22Bends();
        promise23Next();
        promise24Rests();
        promise25Sum();
        promise26Near();
        promise27Between();
        promise28Fractions();
        promise29Fraction();
        promise30Beside();
        promise31Way();
        promise32Step();
        promise33Lay();
        promise34Tear();
        promise35Row();
        promise36Copy();
        promise37Give();
        promise38Status();
        Due.end("PromiseTest");
    }

    // ---- the promises

    private static void promise1NewObject() {
        RoundKiss x = new RoundKiss();
        for (int by = -2; by >= -8; by--) {
            Due.is("1: status(" + by + ") of a new object", x.status(by), 0);
        }
        Due.is("1: drop() of a new object", x.drop(), -2);
        Due.is("1: part() of a new object", x.part(), -2);
        Due.is("1: tear() of a new object", x.tear(), 0);
        Due.is("1: led() of a new object", x.led(), 0);
        Due.is("1: step(0) of a new object", x.step(0), -2);
        Due.is("1: meet(0, 0) of a new object", x.meet(0, 0), -3);
        Due.is("1: shut(0) of a new object", x.shut(0), -3);
        Due.is("1: NONE", RoundKiss.NONE, -1);
        Due.is("1: MISSING", RoundKiss.MISSING, -2);
        Due.is("1: BEYOND", RoundKiss.BEYOND, -3);
        Due.is("1: BELOW", RoundKiss.BELOW, -4);
        Due.is("1: KIND", RoundKiss.KIND, -5);
        Due.is("1: COPY", RoundKiss.COPY, -6);
        Due.is("1: NO", RoundKiss.NO, -7);
        Due.is("1: FULL", RoundKiss.FULL, -8);
        RoundKiss first = made(PromiseTest::bench);
        Due.is("1: objects are apart", new RoundKiss().drop(), -2);
        Due.is("1: the first is as it was", first.drop(), 7);
    }

    private static void promise2Round() {
        RoundKiss x = new RoundKiss();
        Due.is("2: a circle", x.round(3, 1, 0, 2), 0);
        Due.is("2: a line", x.round(0, -7, 0, -1), 1);
        Due.is("2: all at the limit", x.round(BILLION, BILLION, BILLION, 1), 2);
        Due.is("2: all at the limit below", x.round(-BILLION, -BILLION, -1, -BILLION), 3);
        Due.is("2: a line far away", x.round(0, BILLION, 1, 0), 4);
        Due.is("2: a line far below", x.round(0, -BILLION, 1, 0), 5);
        Due.is("2: the same again", x.round(3, 1, 0, 2), 6);
        numbersAre("2: a circle", x, 0, 0, 3, 1, 0, 2);
        numbersAre("2: a line", x, 1, 1, 0, -7, 0, -1);
        numbersAre("2: all at the limit below", x, 3, 0, -BILLION, -BILLION, -1, -BILLION);
        refuses("2: the law broken by 1", PromiseTest::bench, y -> y.round(3, 1, 1, 2), -7);
        refuses("2: the law broken by its sign", PromiseTest::bench, y -> y.round(3, -1, 0, 2), -7);
        refuses("2: all 0", PromiseTest::bench, y -> y.round(0, 0, 0, 0), -7);
        refuses("2: a beyond", PromiseTest::bench, y -> y.round(BILLION + 1, 0, 0, 1), -7);
        refuses("2: b beyond", PromiseTest::bench, y -> y.round(0, BILLION + 1, 0, 1), -7);
        refuses("2: a below", PromiseTest::bench, y -> y.round(-BILLION - 1, 0, 1, 0), -7);
        refuses("2: b below", PromiseTest::bench, y -> y.round(0, -BILLION - 1, 1, 0), -7);
        refuses("2: x beyond", PromiseTest::bench,
                y -> y.round(BILLION + 1, BILLION + 1, BILLION + 1, 1), -7);
        refuses("2: y beyond", PromiseTest::bench,
                y -> y.round(-BILLION - 1, -BILLION - 1, 1, BILLION + 1), -7);
        // In ints, and in longs too, these squares wrap around.
        refuses("2: 2^16 squared is no 0", PromiseTest::bench, y -> y.round(0, 0, 65536, 1), -7);
        refuses("2: -2^31 everywhere", PromiseTest::bench,
                y -> y.round(Integer.MIN_VALUE, Integer.MIN_VALUE, Integer.MIN_VALUE, 1), -7);
        refuses("2: no room", PromiseTest::twentyRounds, y -> y.round(3, 1, 0, 2), -8);
        refuses("2: NO ahead of FULL", PromiseTest::twentyRounds, y -> y.round(3, 1, 1, 2), -7);
        Due.is("2: the twentieth", made(z -> {
            twentyRounds(z);
            z.drop();
        }).round(3, 1, 0, 2), 19);
    }

    private static void promise3Over() {
        RoundKiss x = new RoundKiss();
        Due.is("3: over(0, 1)", x.over(0, 1), 0);
        Due.is("3: over(2, 3)", x.over(2, 3), 1);
        Due.is("3: over(999, 1)", x.over(999, 1), 2);
        Due.is("3: over(1, 999)", x.over(1, 999), 3);
        Due.is("3: over(998, 999)", x.over(998, 999), 4);
        numbersAre("3: over(0, 1)", x, 0, 2, 2, 0, 0, 1, 0, 1);
        numbersAre("3: over(2, 3)", x, 1, 2, 18, 8, 12, 1, 2, 3);
        numbersAre("3: over(998, 999)", x, 4, 2, 1996002, 1992008, 1994004, 1, 998, 999);
        int[][] wrong = {{0, 2}, {0, 0}, {2, 4}, {6, 9}, {999, 999}, {1000, 1}, {1, 1000}, {-1, 1}, {1, 0},
            {1, -1}, {-1, -1}, {0, -1}, {Integer.MIN_VALUE, 1}, {1, Integer.MIN_VALUE}, {Integer.MAX_VALUE, 2}};
        for (int[] pair : wrong) {
            refuses("3: over(" + pair[0] + ", " + pair[1] + ")", PromiseTest::bench,
                    y -> y.over(pair[0], pair[1]), -7);
        }
        refuses("3: no room", PromiseTest::twentyRounds, y -> y.over(1, 2), -8);
        refuses("3: NO ahead of FULL", PromiseTest::twentyRounds, y -> y.over(2, 2), -7);
    }

    private static void promise4Drop() {
        RoundKiss x = made(PromiseTest::bench);
        Due.is("4: drop()", x.drop(), 7);
        Due.is("4: drop() again", x.drop(), 6);
        Due.is("4: the latest has gone", x.meet(6, 0), -3);
        numbersAre("4: the one before is there", x, 5, 1, 0, 5, 1, 0);
        Due.is("4: its number is free", x.round(7, 4, 2, -5), 6);
        numbersAre("4: the new one", x, 6, 0, 7, 4, 2, -5);
        Due.is("4: an OVER's parts are gone", x.look(6, 5), 0);
        Due.is("4: it is of another kind", x.status(-5), 1);
        bendsAre("4: kisses have their own rounds", made(y -> {
            bench(y);
            for (int i = 0; i < 8; i++) {
                y.drop();
            }
        }), 0, -1, 2, 2, 3);
        for (int left = 6; left >= 0; left--) {
            Due.is("4: drop() to " + left, x.drop(), left);
        }
        refuses("4: none there", PromiseTest::empty, y -> y.drop(), -2);
    }

    private static void promise5Look() {
        RoundKiss x = made(PromiseTest::bench);
        numbersAre("5: PLAIN", x, 3, 0, 3, 1, 0, 2);
        numbersAre("5: LINE", x, 5, 1, 0, 5, 1, 0);
        numbersAre("5: OVER", x, 4, 2, 8, 2, 4, 1, 1, 2);
        Due.is("5: TURNED", x.look(6, 0), 3);
        for (int edge : INT_EDGES) {
            refuses("5: look(" + edge + ", 0)", PromiseTest::bench, y -> y.look(edge, 0), -3, 0);
            refuses("5: look(4, " + edge + ")", PromiseTest::bench, y -> y.look(4, edge), -7, 0);
        }
        refuses("5: the one behind the last", PromiseTest::bench, y -> y.look(8, 0), -3, 0);
        refuses("5: BEYOND ahead of KIND and NO", PromiseTest::bench, y -> y.look(8, 7), -3, 0);
        refuses("5: what = 7", PromiseTest::bench, y -> y.look(4, 7), -7, 0);
        for (int round : new int[] {3, 5, 6, 7}) {
            refuses("5: p of no OVER", PromiseTest::bench, y -> y.look(round, 5), -5, 0);
            refuses("5: q of no OVER", PromiseTest::bench, y -> y.look(round, 6), -5, 0);
        }
    }

    private static void promise6Product() {
        RoundKiss x = new RoundKiss();
        x.round(BILLION, BILLION, BILLION, 1);
        x.round(BILLION, BILLION, -BILLION, 1);
        x.round(3, 1, 0, 2);
        x.round(7, 4, 2, -5);
        Due.is("6: with itself", x.product(2, 2), 2);
        Due.is("6: 2 (0 - 10) - 12 - 7", x.product(2, 3), -39);
        Due.is("6: the other way round", x.product(3, 2), -39);
        Due.is("6: at the limit", x.product(0, 1), -3_999_999_999_999_999_998L);
        x.flip(0);
        Due.is("6: at the limit above", x.product(4, 1), 3_999_999_999_999_999_998L);
        answers("6: a product of 0 is no refusal", y -> {
            y.round(0, 0, 1, 0);
            y.round(0, 0, 0, 1);
        }, y -> y.product(0, 1), 0);
        for (int edge : new int[] {Integer.MIN_VALUE, -1, 8, Integer.MAX_VALUE}) {
            refuses("6: product(" + edge + ", 0)", PromiseTest::bench, y -> y.product(edge, 0), -3, 0);
            refuses("6: product(0, " + edge + ")", PromiseTest::bench, y -> y.product(0, edge), -3, 0);
        }
    }

    private static void promise7Meet() {
        RoundKiss x = new RoundKiss();
        x.round(-1, 1, 0, 0);
        x.round(2, 0, 1, 0);
        x.round(0, 0, 0, 1);
        x.over(0, 1);
        x.round(0, 0, 1, 0);
        x.round(1, 0, 1, 0);
        x.over(7, 2);
        x.flip(6);
        x.flip(5);
        x.round(2, 0, 0, 1);
        x.round(1, -1, 0, 0);
        Due.is("7: alike", x.meet(0, 0), 0);
        Due.is("7: alike, of another kind", x.meet(3, 9), 0);
        Due.is("7: touch", x.meet(0, 1), 1);
        Due.is("7: the other side touches", x.meet(0, 10), 1);
        Due.is("7: inner", x.meet(2, 3), 2);
        x.round(5, 0, 0, 1);
        Due.is("7: inner, another bend alone", x.meet(3, 11), 2);
        x.round(0, 7, 0, 1);
        Due.is("7: inner, another b alone", x.meet(2, 12), 2);
        Due.is("7: square", x.meet(2, 4), 3);
        Due.is("7: cross by -1", x.meet(0, 5), 4);
        Due.is("7: cross by 1", x.meet(0, 8), 4);
        Due.is("7: apart", x.meet(3, 6), 5);
        Due.is("7: within", x.meet(3, 7), 6);
        RoundKiss near = made(y -> {
            y.round(1, 3, 2, 0);
            y.round(1, 0, 0, 1);
            y.flip(1);
        });
        Due.is("7: product -3", near.product(0, 1), -3);
        Due.is("7: apart by -3", near.meet(0, 1), 5);
        Due.is("7: within by 3", near.meet(0, 2), 6);
        for (int edge : new int[] {Integer.MIN_VALUE, -1, 8, Integer.MAX_VALUE}) {
            refuses("7: meet(" + edge + ", 0)", PromiseTest::bench, y -> y.meet(edge, 0), -3);
            refuses("7: meet(0, " + edge + ")", PromiseTest::bench, y -> y.meet(0, edge), -3);
        }
    }

    private static void promise8Mirror() {
        RoundKiss x = made(PromiseTest::bench);
        Due.is("8: in one that touches", x.mirror(3, 0), 8);
        numbersAre("8: 3, 1, 0, 2 and twice -1, 1, 0, 0", x, 8, 3, 1, 3, 0, 2);
        Due.is("8: in itself", x.mirror(4, 4), 9);
        numbersAre("8: its other side", x, 9, 3, -8, -2, -4, -1);
        Due.is("8: a line comes", x.mirror(1, 3), 10);
        numbersAre("8: 2, 0, 1, 0 and twice 3, 1, 0, 2", x, 10, 3, 8, 2, 1, 4);
        RoundKiss square = made(y -> {
            y.round(0, 0, 1, 0);
            y.round(0, 0, 0, 1);
            y.round(BILLION, 0, 0, 1);
            y.round(0, BILLION, 1, 0);
        });
        Due.is("8: a line in a line", square.mirror(1, 0), 4);
        numbersAre("8: a line is TURNED too", square, 4, 3, 0, 0, 0, 1);
        Due.is("8: numbers at the limit", square.mirror(2, 0), 5);
        numbersAre("8: at the limit", square, 5, 3, BILLION, 0, 0, 1);
        Due.is("8: a product of -10^18", square.mirror(2, 3), -8);
        Due.is("8: the other way round", square.mirror(3, 2), -8);
        mirrorAtTheLimit();
        for (int edge : new int[] {Integer.MIN_VALUE, -1, 8, Integer.MAX_VALUE}) {
            refuses("8: mirror(" + edge + ", 0)", PromiseTest::bench, y -> y.mirror(edge, 0), -3);
            refuses("8: mirror(0, " + edge + ")", PromiseTest::bench, y -> y.mirror(0, edge), -3);
        }
        refuses("8: no room", PromiseTest::twentyRounds, y -> y.mirror(0, 1), -8);
        refuses("8: BEYOND ahead of FULL", PromiseTest::twentyRounds, y -> y.mirror(0, 20), -3);
        refuses("8: a number beyond", z -> {
            bench(z);
            z.round(BILLION, BILLION, BILLION, 1);
        }, y -> y.mirror(8, 3), -8);
    }

    /** Rounds a, 0, 1, 0 and lines 0, b, 1, 0 have product 2: a, b less twice the other's a, b come. */
    private static void mirrorAtTheLimit() {
        Setup lines = y -> {
            bench(y);
            y.round(0, 0, 1, 0);
            y.round(0, BILLION / 2, 1, 0);
            y.round(0, BILLION / 2 + 1, 1, 0);
            y.round(0, -BILLION / 2, 1, 0);
            y.round(0, -BILLION / 2 - 1, 1, 0);
            y.round(0, 5, 1, 0);
            y.round(0, BILLION / 2 + 2, 1, 0);
        };
        answers("8: b of 5 - 10^9 - 4", lines, y -> y.mirror(13, 14), 15);
        answers("8: b of -10^9", lines, y -> y.mirror(8, 9), 15);
        refuses("8: b of -10^9 - 2", lines, y -> y.mirror(8, 10), -8);
        answers("8: b of 10^9", lines, y -> y.mirror(8, 11), 15);
        refuses("8: b of 10^9 + 2", lines, y -> y.mirror(8, 12), -8);
        Setup throughZero = y -> {
            y.round(0, 0, 1, 0);
            y.round(BILLION / 2, 0, 1, 0);
            y.round(BILLION / 2 + 1, 0, 1, 0);
        };
        answers("8: a of -10^9", throughZero, y -> y.mirror(0, 1), 3);
        refuses("8: a of -10^9 - 2, alone", throughZero, y -> y.mirror(0, 2), -8);
        RoundKiss x = made(lines);
        x.mirror(8, 9);
        numbersAre("8: b of -10^9", x, 15, 3, 0, -BILLION, -1, 0);
    }

    private static void promise9Flip() {
        RoundKiss x = made(PromiseTest::bench);
        numbersAre("9: of an OVER", x, 7, 0, -8, -2, -4, -1);
        Due.is("9: of a LINE", x.flip(5), 8);
        numbersAre("9: of a LINE", x, 8, 1, 0, -5, -1, 0);
        numbersAre("9: a TURNED of bend 0", x, 6, 3, 0, 2, 0, 1);
        Due.is("9: of a TURNED of bend 0", x.flip(6), 9);
        numbersAre("9: it is a LINE", x, 9, 1, 0, -2, 0, -1);
        Due.is("9: and back", x.flip(7), 10);
        numbersAre("9: and back it is no OVER", x, 10, 0, 8, 2, 4, 1);
        RoundKiss turned = made(y -> {
            y.round(3, 1, 0, 2);
            y.mirror(0, 0);
            y.flip(1);
            y.round(-BILLION, -BILLION, BILLION, 1);
            y.flip(3);
        });
        numbersAre("9: a TURNED becomes PLAIN", turned, 2, 0, 3, 1, 0, 2);
        numbersAre("9: at the limit", turned, 4, 0, BILLION, BILLION, -BILLION, -1);
        for (int edge : new int[] {Integer.MIN_VALUE, -1, 8, Integer.MAX_VALUE}) {
            refuses("9: flip(" + edge + ")", PromiseTest::bench, y -> y.flip(edge), -3);
        }
        refuses("9: no room", PromiseTest::twentyRounds, y -> y.flip(0), -8);
        refuses("9: BEYOND ahead of FULL", PromiseTest::twentyRounds, y -> y.flip(20), -3);
    }

    private static void promise10Kiss() {
        RoundKiss x = made(PromiseTest::bench);
        Due.is("10: another order", x.kiss(digits(3, 1, 0, 2)), 1);
        bendsAre("10: the lowest digit is place 0", x, 1, 3, 2, -1, 2);
        for (int i = 2; i < 6; i++) {
            Due.is("10: kiss " + i, x.kiss(digits(0, 1, 2, 3)), i);
        }
        Due.is("10: kiss 1 is as it was", x.of(1, 0, 3), 2);
        refuses("10: one more", PromiseTest::sixKisses, y -> y.kiss(digits(0, 1, 2, 3)), -8);
        refuses("10: NO ahead of FULL", PromiseTest::sixKisses, y -> y.kiss(digits(0, 1, 2, 4)), -7);
        refuses("10: BEYOND ahead of NO", PromiseTest::bench, y -> y.kiss(digits(0, 0, 0, 8)), -3);
        refuses("10: lowest digit beyond", PromiseTest::bench, y -> y.kiss(digits(8, 1, 2, 3)), -3);
        refuses("10: five digits", PromiseTest::bench, y -> y.kiss(160000 + digits(0, 1, 2, 3)), -3);
        refuses("10: 160000", PromiseTest::bench, y -> y.kiss(160000), -3);
        refuses("10: 160000 - 1", PromiseTest::bench, y -> y.kiss(159999), -3);
        refuses("10: one twice", PromiseTest::bench, y -> y.kiss(digits(0, 1, 2, 2)), -7);
        refuses("10: 0 four times", PromiseTest::bench, y -> y.kiss(0), -7);
        refuses("10: without rounds", PromiseTest::empty, y -> y.kiss(0), -3);
        for (int edge : INT_EDGES) {
            refuses("10: kiss(" + edge + ")", PromiseTest::bench, y -> y.kiss(edge), -3);
        }
        for (int place = 0; place < 4; place++) {
            int[] rounds = {0, 1, 2, 3};
            rounds[place] = 4;
            refuses("10: no touch at " + place, PromiseTest::bench,
                    y -> y.kiss(digits(rounds[0], rounds[1], rounds[2], rounds[3])), -7);
        }
        Due.is("10: digit 19", made(y -> {
            twentyRounds(y);
            y.drop();
            y.round(3, 1, 0, 2);
        }).kiss(digits(0, 1, 2, 19)), 1);
    }

    private static void promise11Part() {
        RoundKiss x = made(PromiseTest::threeKisses);
        Due.is("11: part()", x.part(), 2);
        Due.is("11: the latest has gone", x.swap(2, 0), -3);
        bendsAre("11: the one before is there", x, 1, -2, 3, 6, 7);
        Due.is("11: its number is free", x.kiss(digits(0, 1, 2, 3)), 2);
        bendsAre("11: the new one", x, 2, 0, 0, 2, 2);
        Due.is("11: to 2", x.part(), 2);
        Due.is("11: to 1", x.part(), 1);
        Due.is("11: to 0", x.part(), 0);
        refuses("11: none there", PromiseTest::empty, y -> y.part(), -2);
    }

    private static void promise12Of() {
        RoundKiss x = made(PromiseTest::threeKisses);
        int[][] rounds = {{-2, 0, 0, 1}, {3, 0, 0, -1}, {6, 4, 0, -5}, {7, 4, 2, -5}};
        for (int place = 0; place < 4; place++) {
            for (int what = 0; what < 4; what++) {
                Due.is("12: of(1, " + place + ", " + what + ")", x.of(1, place, what), rounds[place][what]);
            }
        }
        answers("12: a number 0 is no refusal", PromiseTest::threeKisses, y -> y.of(0, 0, 0), 0);
        for (int edge : INT_EDGES) {
            refuses("12: of(" + edge + ", 0, 0)", PromiseTest::threeKisses, y -> y.of(edge, 0, 0), -3, 0);
            refuses("12: of(1, " + edge + ", 0)", PromiseTest::threeKisses, y -> y.of(1, edge, 0), -3, 0);
            refuses("12: of(1, 0, " + edge + ")", PromiseTest::threeKisses, y -> y.of(1, 0, edge), -7, 0);
        }
        refuses("12: kiss 3 of 3", PromiseTest::threeKisses, y -> y.of(3, 0, 0), -3, 0);
        refuses("12: place 4", PromiseTest::threeKisses, y -> y.of(1, 4, 0), -3, 0);
        refuses("12: what = 4", PromiseTest::threeKisses, y -> y.of(1, 3, 4), -7, 0);
        refuses("12: BEYOND ahead of NO", PromiseTest::threeKisses, y -> y.of(1, 4, 4), -3, 0);
    }

    private static void promise13Height() {
        RoundKiss x = made(PromiseTest::threeKisses);
        Due.is("13: open", x.height(0), 4);
        Due.is("13: shut", x.height(1), 14);
        Due.is("13: other sides", x.height(2), -14);
        RoundKiss far = made(y -> longKiss(y, 31621));
        Due.is("13: near the limit", far.height(0), 1L + 31621L * 31621 + 31622L * 31622);
        for (int edge : new int[] {Integer.MIN_VALUE, -1, 3, 6, Integer.MAX_VALUE}) {
            refuses("13: height(" + edge + ")", PromiseTest::threeKisses, y -> y.height(edge), -3, 0);
        }
    }

    private static void promise14Fourth() {
        RoundKiss x = made(PromiseTest::threeKisses);
        int[] bends = {34, 19, 10, 7};
        for (int place = 0; place < 4; place++) {
            Due.is("14: fourth(1, " + place + ")", x.fourth(1, place), bends[place]);
        }
        bendsAre("14: nothing is done", x, 1, -2, 3, 6, 7);
        RoundKiss far = made(y -> longKiss(y, 31621));
        Due.is("14: beyond the limit", far.fourth(0, 0), 2 * (1L + 31621L * 31621 + 31622L * 31622));
        Due.is("14: that is not refused", far.status(-8), 0);
        answers("14: a bend 0 is no refusal", PromiseTest::threeKisses, y -> {
            y.swap(0, 0);
            return y.fourth(0, 0);
        }, 0);
        for (int edge : new int[] {Integer.MIN_VALUE, -1, 4, Integer.MAX_VALUE}) {
            refuses("14: fourth(" + edge + ", 0)", PromiseTest::threeKisses, y -> y.fourth(edge, 0), -3, 0);
            refuses("14: fourth(0, " + edge + ")", PromiseTest::threeKisses, y -> y.fourth(0, edge), -3, 0);
        }
    }

    private static void promise15Swap() {
        RoundKiss x = made(PromiseTest::threeKisses);
        Due.is("15: swap(1, 2)", x.swap(1, 2), 1);
        x.lay(1);
        sixteenAre("15: place 2 alone", x, -2, 0, 0, 1, 3, 0, 0, -1, 10, 4, 4, -5, 7, 4, 2, -5);
        Due.is("15: swap(1, 2) again", x.swap(1, 2), 1);
        x.lay(1);
        sixteenAre("15: as it was", x, -2, 0, 0, 1, 3, 0, 0, -1, 6, 4, 0, -5, 7, 4, 2, -5);
        Due.is("15: with a height below 0", x.swap(2, 0), 1);
        bendsAre("15: with a height below 0", x, 2, -34, -3, -6, -7);
        Due.is("15: the shelf's round is as it was", x.look(8, 1), 2);
        for (int edge : new int[] {Integer.MIN_VALUE, -1, 4, Integer.MAX_VALUE}) {
            refuses("15: swap(" + edge + ", 0)", PromiseTest::threeKisses, y -> y.swap(edge, 0), -3);
            refuses("15: swap(0, " + edge + ")", PromiseTest::threeKisses, y -> y.swap(0, edge), -3);
        }
        Setup far = y -> longKiss(y, 31621);
        refuses("15: a bend beyond", far, y -> y.swap(0, 0), -8);
        refuses("15: a bend beyond, likewise", far, y -> y.swap(0, 2), -8);
        answers("15: back it fits", far, y -> y.swap(0, 3), 1);
        swapAtTheLimit();
    }

    private static void swapAtTheLimit() {
        // The chain 2, 2 k k, 2 k, 1 between the lines y = 0 and y = 1 goes on by 1 with each swap.
        Setup chain = y -> {
            y.round(0, 0, 0, -1);
            y.round(0, 2, 0, 1);
            y.round(2, 2 * 22359 * 22359, 2 * 22359, 1);
            y.round(2, 2 * 22360 * 22360, 2 * 22360, 1);
            y.kiss(digits(0, 1, 2, 3));
        };
        refuses("15: b beyond where the bends stay", chain, y -> y.swap(0, 2), -8);
        answers("15: b below where the bends stay", chain, y -> y.swap(0, 3), 1);
        Setup flipped = y -> {
            chain.on(y);
            for (int i = 0; i < 4; i++) {
                y.flip(i);
            }
            y.part();
            y.kiss(digits(4, 5, 6, 7));
        };
        refuses("15: b beyond below 0", flipped, y -> y.swap(0, 2), -8);
    }

    private static void promise16Word() {
        RoundKiss x = made(PromiseTest::threeKisses);
        Due.is("16: a word of none", x.word(1, 0, 0), 0);
        bendsAre("16: a word of none", x, 1, -2, 3, 6, 7);
        Due.is("16: places 3, 0, 2", x.word(1, 3 + 0 * 4 + 2 * 16, 3), 3);
        bendsAre("16: places 3, 0, 2", x, 1, 34, 3, 82, 7);
        Due.is("16: places 2, 0, 3", x.word(1, 2 + 0 * 4 + 3 * 16, 3), 3);
        bendsAre("16: back", x, 1, -2, 3, 6, 7);
        Due.is("16: fifteen at one place", x.word(1, 0, 15), 15);
        bendsAre("16: an odd number of them", x, 1, 34, 3, 6, 7);
        Due.is("16: all digits 3", x.word(0, (1 << 30) - 1, 15), 15);
        wordTillFull();
        for (int edge : new int[] {Integer.MIN_VALUE, -1, 3, Integer.MAX_VALUE}) {
            refuses("16: word(" + edge + ", 0, 1)", PromiseTest::threeKisses, y -> y.word(edge, 0, 1), -3);
        }
        refuses("16: BEYOND ahead of BELOW", PromiseTest::threeKisses, y -> y.word(3, 0, -1), -3);
        refuses("16: BELOW ahead of NO", PromiseTest::threeKisses, y -> y.word(0, -1, -1), -4);
        refuses("16: n least", PromiseTest::threeKisses, y -> y.word(0, 0, Integer.MIN_VALUE), -4);
        refuses("16: n = 16", PromiseTest::threeKisses, y -> y.word(0, 0, 16), -7);
        refuses("16: n greatest", PromiseTest::threeKisses, y -> y.word(0, 0, Integer.MAX_VALUE), -7);
        refuses("16: digits below 0", PromiseTest::threeKisses, y -> y.word(0, -1, 15), -7);
        refuses("16: a digit too many", PromiseTest::threeKisses, y -> y.word(0, 16, 2), -7);
        refuses("16: a digit for none", PromiseTest::threeKisses, y -> y.word(0, 1, 0), -7);
        refuses("16: sixteen digits", PromiseTest::threeKisses, y -> y.word(0, 1 << 30, 15), -7);
        answers("16: two digits of 3", PromiseTest::threeKisses, y -> y.word(0, 15, 2), 2);
    }

    private static void wordTillFull() {
        int around = 0;
        for (int i = 0; i < 15; i++) {
            around |= (i % 4) << (2 * i);
        }
        RoundKiss byWord = made(PromiseTest::threeKisses);
        RoundKiss bySwaps = made(PromiseTest::threeKisses);
        int wordsSwaps = byWord.word(1, around, 15);
        wordsSwaps += byWord.word(1, around, 15);
        int swaps = 0;
        for (int i = 0; i < 15 && bySwaps.swap(1, i % 4) == 1; i++) {
            swaps++;
        }
        for (int i = 0; i < 15 && bySwaps.swap(1, i % 4) == 1; i++) {
            swaps++;
        }
        Due.is("16: as many as swaps", wordsSwaps, swaps);
        Due.holds("16: some were left", swaps > 10 && swaps < 30);
        for (int place = 0; place < 4; place++) {
            Due.is("16: what was done stays", byWord.of(1, place, 0), bySwaps.of(1, place, 0));
        }
        Due.is("16: a word that stops is not refused", byWord.status(-8), 0);
        RoundKiss far = made(y -> longKiss(y, 31621));
        Due.is("16: FULL at once", far.word(0, 0, 1), 0);
        Due.is("16: FULL behind one", far.word(0, 3 + 0 * 4 + 3 * 16, 3), 1);
        bendsAre("16: FULL behind one", far, 0, 0, 1, 31621 * 31621, 31620 * 31620);
    }

    private static void promise17Least() {
        RoundKiss x = made(PromiseTest::threeKisses);
        Due.is("17: of a least", x.least(1), 0);
        bendsAre("17: of a least", x, 1, -2, 3, 6, 7);
        Due.is("17: a word away", x.word(1, 3 + 0 * 4 + 2 * 16 + 1 * 64, 4), 4);
        // A swap at place 3 keeps the bend 7, so that one is not undone.
        Due.is("17: led back", x.least(1), 3);
        x.lay(1);
        sixteenAre("17: led back", x, -2, 0, 0, 1, 3, 0, 0, -1, 6, 4, 0, -5, 7, 4, -2, -5);
        Due.is("17: of an open one", x.least(0), 0);
        x.swap(0, 1);
        x.swap(0, 0);
        Due.is("17: two lines come back", x.least(0), 2);
        bendsAre("17: two lines come back", x, 0, 0, 0, 2, 2);
        RoundKiss three = made(PromiseTest::bench);
        three.word(0, 0 + 1 * 4 + 2 * 16 + 3 * 64, 4);
        Due.is("17: four swaps", three.least(0), 4);
        bendsAre("17: four swaps", three, 0, -1, 2, 2, 3);
        RoundKiss far = made(y -> longKiss(y, 31621));
        Due.is("17: led back from near the limit", far.least(0), 31621);
        Due.is("17: to height 2", far.height(0), 2);
        for (int edge : new int[] {Integer.MIN_VALUE, -1, 3, Integer.MAX_VALUE}) {
            refuses("17: least(" + edge + ")", PromiseTest::threeKisses, y -> y.least(edge), -3);
        }
        refuses("17: height below 0", PromiseTest::threeKisses, y -> y.least(2), -7);
    }

    private static void promise18Led() {
        RoundKiss x = made(PromiseTest::threeKisses);
        Due.is("18: ahead of any", x.led(), 0);
        x.word(1, 3 + 0 * 4 + 2 * 16 + 1 * 64, 4);
        x.least(1);
        Due.is("18: places 1, 2, 0", x.led(), 1 + 2 * 4 + 0 * 16);
        Due.is("18: refused", x.least(2), -7);
        Due.is("18: refused by BEYOND", x.least(5), -3);
        Due.is("18: as it was", x.led(), 9);
        x.part();
        x.part();
        x.part();
        Due.is("18: without kisses", x.led(), 9);
        x.kiss(digits(4, 5, 6, 7));
        Due.is("18: no swaps", x.least(0), 0);
        Due.is("18: no swaps", x.led(), 0);
        RoundKiss far = made(y -> longKiss(y, 20));
        Due.is("18: twenty swaps", far.least(0), 20);
        int fifteen = 0;
        for (int i = 0; i < 15; i++) {
            fifteen |= (i % 2 == 0 ? 3 : 2) << (2 * i);
        }
        Due.is("18: fifteen of them", far.led(), fifteen);
        Due.is("18: led() leaves it", far.led(), fifteen);
    }

    private static void promise19Same() {
        RoundKiss x = made(PromiseTest::threeKisses);
        Due.is("19: with itself", x.same(1, 1), 1);
        Due.is("19: another packing", x.same(0, 1), 0);
        x.part();
        x.kiss(digits(7, 5, 4, 6));
        x.word(2, 0 + 1 * 4 + 2 * 16, 3);
        Due.is("19: in another order, swapped", x.same(1, 2), 1);
        bendsAre("19: they stay", x, 1, -2, 3, 6, 7);
        Due.holds("19: they stay", x.of(2, 1, 0) != 3);
        Due.is("19: led() stays", x.led(), 0);
        sameBendsOtherwiseOften();
        refuses("19: NO of the first", PromiseTest::threeKisses, y -> y.same(2, 1), -7);
        refuses("19: NO of the other", PromiseTest::threeKisses, y -> y.same(1, 2), -7);
        refuses("19: NO of both", PromiseTest::threeKisses, y -> y.same(2, 2), -7);
        refuses("19: BEYOND ahead of NO", PromiseTest::threeKisses, y -> y.same(2, 3), -3);
        for (int edge : new int[] {Integer.MIN_VALUE, -1, 3, Integer.MAX_VALUE}) {
            refuses("19: same(" + edge + ", 0)", PromiseTest::threeKisses, y -> y.same(edge, 0), -3);
            refuses("19: same(0, " + edge + ")", PromiseTest::threeKisses, y -> y.same(0, edge), -3);
        }
    }

    /** 0, 0, 1, 1 and 0, 0, 2, 2 share bends, but not all. */
    private static void sameBendsOtherwiseOften() {
        RoundKiss x = made(PromiseTest::threeKisses);
        x.round(0, 0, 0, -1);
        x.round(0, 4, 0, 1);
        x.round(1, 0, 0, 1);
        x.round(1, 4, 2, 1);
        x.part();
        Due.is("19: 0, 0, 1, 1", x.kiss(digits(12, 13, 14, 15)), 2);
        Due.is("19: 0, 0, 1, 1 and 0, 0, 2, 2", x.same(0, 2), 0);
        Due.is("19: the other way round", x.same(2, 0), 0);
        Due.is("19: -2, 3, 6, 7 and 0, 0, 1, 1", x.same(1, 2), 0);
    }

    private static void promise20Shut() {
        RoundKiss x = made(PromiseTest::threeKisses);
        Due.is("20: open", x.shut(0), 0);
        Due.is("20: shut", x.shut(1), 1);
        x.swap(0, 0);
        x.swap(1, 0);
        bendsAre("20: no bend below 0", x, 1, 34, 3, 6, 7);
        Due.is("20: open, swapped", x.shut(0), 0);
        Due.is("20: shut, swapped", x.shut(1), 1);
        bendsAre("20: it stays", x, 1, 34, 3, 6, 7);
        Due.is("20: from near the limit", made(y -> longKiss(y, 31621)).shut(0), 0);
        refuses("20: height below 0", PromiseTest::threeKisses, y -> y.shut(2), -7);
        for (int edge : new int[] {Integer.MIN_VALUE, -1, 3, Integer.MAX_VALUE}) {
            refuses("20: shut(" + edge + ")", PromiseTest::threeKisses, y -> y.shut(edge), -3);
        }
    }

    private interface PackingCall {
        long on(RoundKiss x, int kiss, int n);
    }

    /** The refusals that all calls on packings share. */
    private static void packingRefusals(String what, PackingCall call, int lowest, int highest, boolean tellsZero) {
        long beyond = tellsZero ? 0 : -3;
        long no = tellsZero ? 0 : -7;
        Setup setup = PromiseTest::threeKisses;
        for (int edge : new int[] {Integer.MIN_VALUE, -1, 3, Integer.MAX_VALUE}) {
            refuses(what + ": kiss " + edge, setup, y -> call.on(y, edge, 5), -3, beyond);
        }
        refuses(what + ": not shut", setup, y -> call.on(y, 0, 5), -7, no);
        refuses(what + ": height below 0", setup, y -> call.on(y, 2, 5), -7, no);
        refuses(what + ": BEYOND ahead of NO", setup, y -> call.on(y, 3, highest + 1), -3, beyond);
        int[] wrong = {Integer.MIN_VALUE, lowest - 1, highest + 1, Integer.MAX_VALUE};
        for (int n : wrong) {
            refuses(what + ": n " + n, setup, y -> call.on(y, 1, n), -7, no);
        }
        Due.is(what + ": status at the lowest n", statusAfter(call, lowest), 0);
        Due.is(what + ": status at the highest n", statusAfter(call, highest), 0);
    }

    private static int statusAfter(PackingCall call, int n) {
        RoundKiss x = made(PromiseTest::threeKisses);
        call.on(x, 1, n);
        return x.status(-7) + x.status(-3);
    }

    private static void promise21Count() {
        RoundKiss x = made(PromiseTest::bench);
        int[][] counts = {{0, 1}, {1, 1}, {2, 3}, {3, 5}, {5, 5}, {6, 9}, {10, 9}, {11, 13}, {14, 17}, {15, 19},
            {30, 39}};
        for (int[] pair : counts) {
            Due.is("21: count(0, " + pair[0] + ")", x.count(0, pair[0]), pair[1]);
        }
        x.word(0, 0 + 1 * 4 + 2 * 16 + 3 * 64, 4);
        Due.is("21: from another kiss of it", x.count(0, 30), 39);
        Due.is("21: which stays as it is", x.of(0, 0, 0), 15);
        Due.is("21: led() stays", x.led(), made(PromiseTest::bench).led());
        packingRefusals("21", RoundKiss::count, 0, 300, false);
    }

    private static void promise22Bends() {
        RoundKiss x = made(PromiseTest::bench);
        int[][] bends = {{0, 0}, {1, 0}, {2, 2}, {3, 2}, {6, 4}, {11, 4}, {14, 4}, {15, 2}, {16, 0}};
        for (int[] pair : bends) {
            Due.is("22: bends(0, " + pair[0] + ")", x.bends(0, pair[0]), pair[1]);
        }
        int all = 1;
        for (int n = 0; n <= 300; n++) {
            all += x.bends(0, n);
        }
        Due.is("22: all together, and the one of -1", all, x.count(0, 300));
        packingRefusals("22", RoundKiss::bends, 0, 300, false);
    }

    private static void promise23Next() {
        RoundKiss x = made(PromiseTest::threeKisses);
        int[] row = {-2, 3, 6, 7, 10, 15, 19, 22};
        for (int i = 1; i < row.length; i++) {
            Due.is("23: next(1, " + row[i - 1] + ")", x.next(1, row[i - 1]), row[i]);
            Due.is("23: next(1, " + (row[i] - 1) + ")", x.next(1, row[i] - 1), row[i]);
        }
        Due.is("23: from the least number", x.next(1, -BILLION), -2);
        Due.is("23: from -3", x.next(1, -3), -2);
        answers("23: none is no refusal", PromiseTest::bench, y -> y.next(0, 299), -1);
        answers("23: a bend of -1", PromiseTest::bench, y -> y.next(0, -2), -1);
        answers("23: behind the bend of -1", PromiseTest::bench, y -> y.next(0, -1), 2);
        bendsAre("23: it stays", x, 1, -2, 3, 6, 7);
        int at = -1;
        int differentOnes = 0;
        while (at < 299 && (at = x.next(1, at)) > 0) {
            differentOnes++;
            if (differentOnes > 100) {
                break;
            }
        }
        Due.holds("23: a chain of them ends", differentOnes > 20);
        greatBends();
        packingRefusals("23", RoundKiss::next, -BILLION, 299, false);
    }

    /** -n, n + 1, n n + n, n n + n + 1 about the point 0, 0: all but one are above 300. */
    private static void greatBends() {
        int n = 1000;
        RoundKiss x = made(y -> {
            y.round(-n, 0, 1, 0);
            y.round(n + 1, 0, -1, 0);
            y.round(n * n + n, 4, -1 - 2 * n, 0);
            y.round(n * n + n + 1, 4, -1 - 2 * n, 2);
            y.kiss(digits(0, 1, 2, 3));
        });
        Due.is("23: shut", x.shut(0), 1);
        Due.is("23: count", x.count(0, 300), 1);
        Due.is("23: next", x.next(0, -2000), -1000);
        Due.is("23: none", x.next(0, -1000), -1);
        Due.is("23: sum", x.sum(0, 300, 0), -1000);
        Due.is("23: rests, of -1000", x.rests(0, 300), 1 << 8);
        Due.is("23: touches the first", x.sum(0, 300, 1), 0);
        Due.is("23: touches the second", x.sum(0, 300, 2), 1);
    }

    private static void promise24Rests() {
        RoundKiss x = made(PromiseTest::bench);
        int minusOne = 1 << 23;
        Due.is("24: rests(0, 0)", x.rests(0, 0), minusOne);
        Due.is("24: rests(0, 2)", x.rests(0, 2), minusOne | 1 << 2);
        Due.is("24: rests(0, 15)", x.rests(0, 15),
                minusOne | 1 << 2 | 1 << 3 | 1 << 6 | 1 << 11 | 1 << 14 | 1 << 15);
        Due.is("24: rests(0, 300)", x.rests(0, 300),
                minusOne | 1 << 2 | 1 << 3 | 1 << 6 | 1 << 11 | 1 << 14 | 1 << 15 | 1 << 18);
        packingRefusals("24", RoundKiss::rests, 0, 300, false);
    }

    private static void promise25Sum() {
        RoundKiss x = made(PromiseTest::bench);
        Due.is("25: sum(0, 0, 0)", x.sum(0, 0, 0), -1);
        Due.is("25: sum(0, 6, 0)", x.sum(0, 6, 0), -1 + 4 + 6 + 24);
        // Bends that touch -1: 2, 2, 3, 3, 6 four times.
        Due.is("25: sum(0, 6, 1)", x.sum(0, 6, 1), 8);
        Due.is("25: sum(0, 2, 1)", x.sum(0, 2, 1), 2);
        Due.is("25: sum(0, 0, 1)", x.sum(0, 0, 1), 0);
        Due.is("25: that is no refusal", x.status(-7), 0);
        // Bends that touch 2: -1, 2, 3, 3, 6, 6.
        Due.is("25: sum(0, 6, 2)", x.sum(0, 6, 2), 6);
        Due.is("25: sum(0, 6, 3)", x.sum(0, 6, 3), 6);
        // Bends that touch 3: -1, 2, 2, 6, 6.
        Due.is("25: sum(0, 6, 4)", x.sum(0, 6, 4), 5);
        Due.is("25: 3 itself is above 2", x.sum(0, 2, 4), 3);
        x.swap(0, 0);
        Due.is("25: the places are those of the least", x.sum(0, 6, 1), 8);
        for (int what : new int[] {Integer.MIN_VALUE, -1, 5, Integer.MAX_VALUE}) {
            refuses("25: what " + what, PromiseTest::bench, y -> y.sum(0, 6, what), -7, 0);
        }
        refuses("25: BEYOND ahead of NO", PromiseTest::bench, y -> y.sum(1, 6, 5), -3, 0);
        for (int what = 0; what <= 4; what++) {
            int each = what;
            packingRefusals("25, " + what, (y, kiss, n) -> y.sum(kiss, n, each), 0, 300, true);
        }
    }

    private static final int[] NO_FRACTIONS = {Integer.MIN_VALUE, -101, -1, 0, 2, 99, 100, 200, 201, 204, 302,
        9999, 9900, 10099, 10101, 2147483601, Integer.MAX_VALUE};

    private static void promise26Near() {
        RoundKiss x = new RoundKiss();
        Due.is("26: 0 and 1", x.near(1, 101), 1);
        Due.is("26: 1 and 0", x.near(101, 1), 1);
        Due.is("26: 1/2 and 2/3", x.near(102, 203), 1);
        Due.is("26: 1/3 and 2/3", x.near(103, 203), 0);
        Due.is("26: itself", x.near(102, 102), 0);
        Due.is("26: 0 and 1/99", x.near(1, 199), 1);
        Due.is("26: 98/99 and 97/98", x.near(9899, 9798), 1);
        for (int f : NO_FRACTIONS) {
            refuses("26: near(" + f + ", 1)", PromiseTest::bench, y -> y.near(f, 1), -7);
            refuses("26: near(1, " + f + ")", PromiseTest::bench, y -> y.near(1, f), -7);
        }
    }

    private static void promise27Between() {
        RoundKiss x = new RoundKiss();
        Due.is("27: 0 and 1", x.between(1, 101), 102);
        Due.is("27: 2/3 and 1/2", x.between(203, 102), 305);
        Due.is("27: 0 and 1/98", x.between(1, 198), 199);
        Due.is("27: 49/50 and 48/49", x.between(4950, 4849), 9799);
        refuses("27: 0 and 1/99", PromiseTest::bench, y -> y.between(1, 199), -8);
        refuses("27: 49/50 and 50/51", PromiseTest::bench, y -> y.between(4950, 5051), -8);
        refuses("27: not near", PromiseTest::bench, y -> y.between(103, 203), -7);
        refuses("27: itself", PromiseTest::bench, y -> y.between(102, 102), -7);
        refuses("27: NO ahead of FULL", PromiseTest::bench, y -> y.between(199, 198 + 100), -7);
        for (int f : NO_FRACTIONS) {
            refuses("27: between(" + f + ", 1)", PromiseTest::bench, y -> y.between(f, 1), -7);
            refuses("27: between(1, " + f + ")", PromiseTest::bench, y -> y.between(1, f), -7);
        }
    }

    private static void promise28Fractions() {
        RoundKiss x = new RoundKiss();
        int[] counts = {2, 3, 5, 7, 11, 13, 19, 23, 29, 33};
        for (int n = 1; n <= 10; n++) {
            Due.is("28: fractions(" + n + ")", x.fractions(n), counts[n - 1]);
        }
        Due.is("28: fractions(29)", x.fractions(29), 271);
        Due.is("28: fractions(30)", x.fractions(30), 279);
        Due.is("28: fractions(2) again", x.fractions(2), 3);
        for (int n : new int[] {Integer.MIN_VALUE, -1, 0, 31, Integer.MAX_VALUE}) {
            refuses("28: fractions(" + n + ")", PromiseTest::bench, y -> y.fractions(n), -7);
        }
    }

    private static void promise29Fraction() {
        RoundKiss x = new RoundKiss();
        int[] five = {1, 105, 104, 103, 205, 102, 305, 203, 304, 405, 101};
        for (int i = 0; i < five.length; i++) {
            Due.is("29: fraction(5, " + i + ")", x.fraction(5, i), five[i]);
        }
        Due.is("29: fraction(1, 0)", x.fraction(1, 0), 1);
        Due.is("29: fraction(1, 1)", x.fraction(1, 1), 101);
        Due.is("29: fraction(30, 1)", x.fraction(30, 1), 130);
        Due.is("29: fraction(30, 139)", x.fraction(30, 139), 102);
        Due.is("29: fraction(30, 278)", x.fraction(30, 278), 101);
        for (int i : new int[] {Integer.MIN_VALUE, -1, 11, Integer.MAX_VALUE}) {
            refuses("29: fraction(5, " + i + ")", PromiseTest::bench, y -> y.fraction(5, i), -3);
        }
        refuses("29: fraction(30, 279)", PromiseTest::bench, y -> y.fraction(30, 279), -3);
        for (int n : new int[] {Integer.MIN_VALUE, -1, 0, 31, Integer.MAX_VALUE}) {
            refuses("29: fraction(" + n + ", 0)", PromiseTest::bench, y -> y.fraction(n, 0), -7);
        }
        refuses("29: NO ahead of BEYOND", PromiseTest::bench, y -> y.fraction(31, -1), -7);
    }

    private static void promise30Beside() {
        RoundKiss x = new RoundKiss();
        Due.is("30: behind 1/2", x.beside(102, 5, false), 305);
        Due.is("30: ahead of 1/2", x.beside(102, 5, true), 205);
        Due.is("30: behind 1/2 in another row", x.beside(102, 7, false), 407);
        Due.is("30: ahead of 1/5", x.beside(105, 5, true), 1);
        Due.is("30: behind 4/5", x.beside(405, 5, false), 101);
        Due.is("30: behind 0", x.beside(1, 30, false), 130);
        Due.is("30: ahead of 1", x.beside(101, 30, true), 2930);
        Due.is("30: behind 0 in the row of 1", x.beside(1, 1, false), 101);
        answers("30: ahead of 0", PromiseTest::bench, y -> y.beside(1, 5, true), -1);
        answers("30: behind 1", PromiseTest::bench, y -> y.beside(101, 5, false), -1);
        for (int f : NO_FRACTIONS) {
            refuses("30: beside(" + f + ", 30, false)", PromiseTest::bench, y -> y.beside(f, 30, false), -7);
        }
        refuses("30: of a greater row", PromiseTest::bench, y -> y.beside(106, 5, true), -7);
        for (int n : new int[] {Integer.MIN_VALUE, -1, 0, 31, Integer.MAX_VALUE}) {
            refuses("30: beside(1, " + n + ", false)", PromiseTest::bench, y -> y.beside(1, n, false), -7);
        }
    }

    private static void wayIs(RoundKiss x, int n, int... stops) {
        int last = stops.length - 1;
        Due.is("31: way to " + stops[last], x.way(stops[0], stops[last], n), last);
        for (int i = 0; i <= last; i++) {
            Due.is("31, 32: step(" + i + ")", x.step(i), stops[i]);
        }
        Due.is("32: behind the last", x.step(last + 1), -3);
    }

    private static void promise31Way() {
        RoundKiss x = new RoundKiss();
        wayIs(x, 1, 1, 101);
        wayIs(x, 1, 101, 1);
        wayIs(x, 30, 102);
        // 1/3 and 2/3 both have 1/2, and 1/2 alone; 0 and 1 take one step more.
        wayIs(x, 3, 103, 102, 203);
        // 2/5 and 3/5 have 1/2 between them.
        wayIs(x, 5, 205, 102, 305);
        // 1/4 to 3/4: by 0 and 1, by 1/3, 1/2, 2/3 it is longer.
        wayIs(x, 4, 104, 1, 101, 304);
        wayIs(x, 4, 304, 101, 1, 104);
        wayIs(x, 8, 207, 104, 1, 101, 405);
        // Both 1/3 and 1/2 stand between 2/5 and 0 / 1: the less one is taken.
        wayIs(x, 5, 205, 103, 1);
        wayIs(x, 5, 205, 102, 101);
        wayIs(x, 30, 130, 1, 101, 2930);
        wayIs(x, 30, 2930, 101, 1, 130);
        refuses("31: f none of the row", PromiseTest::bench, y -> y.way(106, 1, 5), -7);
        refuses("31: g none of the row", PromiseTest::bench, y -> y.way(1, 106, 5), -7);
        for (int f : NO_FRACTIONS) {
            refuses("31: way(" + f + ", 1, 30)", PromiseTest::bench, y -> y.way(f, 1, 30), -7);
            refuses("31: way(1, " + f + ", 30)", PromiseTest::bench, y -> y.way(1, f, 30), -7);
        }
        for (int n : new int[] {Integer.MIN_VALUE, -1, 0, 31, Integer.MAX_VALUE}) {
            refuses("31: way(1, 101, " + n + ")", PromiseTest::bench, y -> y.way(1, 101, n), -7);
        }
    }

    private static void promise32Step() {
        RoundKiss x = new RoundKiss();
        Due.is("32: a refused way is none", x.way(1, 101, 0), -7);
        Due.is("32: none yet", x.step(0), -2);
        x.way(103, 203, 3);
        x.way(1, 1, 31);
        Due.is("32: the latest that wasn't refused", x.step(2), 203);
        x.fractions(30);
        Due.is("32: another row in between", x.step(1), 102);
        refuses("32: none there", PromiseTest::empty, y -> y.step(0), -2);
        refuses("32: MISSING ahead of BEYOND", PromiseTest::empty, y -> y.step(-1), -2);
        for (int i : new int[] {Integer.MIN_VALUE, -1, 2, Integer.MAX_VALUE}) {
            refuses("32: step(" + i + ")", PromiseTest::bench, y -> y.step(i), -3);
        }
    }

    private static void promise33Lay() {
        RoundKiss x = made(PromiseTest::threeKisses);
        Due.is("33: lay(1)", x.lay(1), 16);
        sixteenAre("33: place by place", x, -2, 0, 0, 1, 3, 0, 0, -1, 6, 4, 0, -5, 7, 4, 2, -5);
        x.swap(1, 0);
        x.part();
        x.part();
        Due.is("33: the row has its own numbers", x.row(0), -2);
        Due.is("33: lay(0)", x.lay(0), 16);
        sixteenAre("33: another one", x, 0, 0, 0, -1, 0, 2, 0, 1, 2, 0, 0, 1, 2, 2, 2, 1);
        for (int edge : new int[] {Integer.MIN_VALUE, -1, 1, Integer.MAX_VALUE}) {
            refuses("33: lay(" + edge + ")", PromiseTest::bench, y -> y.lay(edge), -3);
        }
        refuses("33: without kisses", PromiseTest::empty, y -> y.lay(0), -3);
    }

    private static void promise34Tear() {
        RoundKiss x = made(PromiseTest::bench);
        answers("34: at first", PromiseTest::empty, y -> y.tear(), 0);
        Due.is("34: it was there", x.tear(), 1);
        Due.is("34: it is missing", x.copy(0, 0, 0), -2);
        Due.is("34: it was not there", x.tear(), 0);
        x.lay(0);
        Due.is("34: there again", x.tear(), 1);
    }

    private static void promise35Row() {
        RoundKiss x = made(PromiseTest::bench);
        Due.is("35: row(0)", x.row(0), -1);
        Due.is("35: row(15)", x.row(15), 2);
        answers("35: a number 0 is no refusal", PromiseTest::bench, y -> y.row(2), 0);
        for (int i : new int[] {Integer.MIN_VALUE, -1, 16, Integer.MAX_VALUE}) {
            refuses("35: row(" + i + ")", PromiseTest::bench, y -> y.row(i), -3, 0);
        }
        refuses("35: missing", PromiseTest::empty, y -> y.row(0), -2, 0);
        refuses("35: MISSING ahead of BEYOND", PromiseTest::empty, y -> y.row(16), -2, 0);
    }

    private static void promise36Copy() {
        RoundKiss x = made(PromiseTest::threeKisses);
        x.lay(1);
        Due.is("36: upwards, one over the other", x.copy(0, 2, 6), 6);
        sixteenAre("36: as they were", x, -2, 0, -2, 0, 0, 1, 3, 0, 6, 4, 0, -5, 7, 4, 2, -5);
        Due.is("36: downwards, one over the other", x.copy(9, 7, 7), 7);
        sixteenAre("36: as they were", x, -2, 0, -2, 0, 0, 1, 3, 4, 0, -5, 7, 4, 2, -5, 2, -5);
        Due.is("36: none", x.copy(0, 5, 0), 0);
        Due.is("36: none at the end", x.copy(16, 16, 0), 0);
        Due.is("36: all", x.copy(0, 0, 16), 16);
        Due.is("36: the last one", x.copy(15, 0, 1), 1);
        sixteenAre("36: the last one", x, -5, 0, -2, 0, 0, 1, 3, 4, 0, -5, 7, 4, 2, -5, 2, -5);
        bendsAre("36: the kiss stays", x, 1, -2, 3, 6, 7);
        refuses("36: missing", PromiseTest::empty, y -> y.copy(0, 0, 1), -2);
        refuses("36: MISSING ahead of BELOW", PromiseTest::empty, y -> y.copy(-1, -1, -1), -2);
        refuses("36: BELOW ahead of COPY", PromiseTest::bench, y -> y.copy(-1, 17, -1), -4);
        refuses("36: n least", PromiseTest::bench, y -> y.copy(0, 0, Integer.MIN_VALUE), -4);
        int[][] wrong = {{-1, 0, 1}, {0, -1, 1}, {-1, 0, 0}, {0, -1, 0}, {17, 0, 0}, {0, 17, 0}, {0, 1, 16},
            {1, 0, 16}, {16, 0, 1}, {0, 16, 1}, {0, 0, 17}, {Integer.MAX_VALUE, 0, Integer.MAX_VALUE},
            {0, Integer.MAX_VALUE, 1}, {Integer.MAX_VALUE, 0, 1}, {Integer.MIN_VALUE, 0, 4}, {1, 1, Integer.MAX_VALUE}};
        for (int[] c : wrong) {
            refuses("36: copy(" + c[0] + ", " + c[1] + ", " + c[2] + ")", PromiseTest::bench,
                    y -> y.copy(c[0], c[1], c[2]), -6);
        }
    }

    private static void promise37Give() {
        RoundKiss x = made(PromiseTest::threeKisses);
        x.lay(1);
        Due.is("37: give()", x.give(), 3);
        bendsAre("37: give()", x, 3, -2, 3, 6, 7);
        Due.is("37: the other numbers too", x.of(3, 3, 3), -5);
        Due.is("37: the row stays", x.give(), 4);
        x.swap(3, 0);
        Due.is("37: they are apart", x.of(4, 0, 0), -2);
        Due.is("37: so is the row", x.row(0), -2);
        Due.is("37: the sixth", x.give(), 5);
        Due.is("37: one more", x.give(), -8);
        Due.is("37: from where a kiss is gone", made(y -> {
            bench(y);
            y.part();
        }).give(), 0);
        refuses("37: missing", PromiseTest::empty, y -> y.give(), -2);
        refuses("37: torn", y -> {
            sixKisses(y);
            y.copy(0, 1, 3);
            y.tear();
        }, y -> y.give(), -2);
        refuses("37: one twice", y -> {
            bench(y);
            y.copy(0, 4, 4);
        }, y -> y.give(), -7);
        refuses("37: a law isn't kept", y -> {
            bench(y);
            y.copy(12, 15, 1);
        }, y -> y.give(), -7);
        refuses("37: FULL", PromiseTest::sixKisses, y -> y.give(), -8);
        refuses("37: NO ahead of FULL", y -> {
            sixKisses(y);
            y.copy(0, 4, 4);
        }, y -> y.give(), -7);
        answers("37: numbers that are the same", y -> {
            bench(y);
            y.copy(2, 3, 1);
        }, y -> y.give(), 1);
    }

    private static void promise38Status() {
        RoundKiss x = new RoundKiss();
        x.drop();
        x.part();
        x.flip(0);
        x.height(0);
        x.fourth(0, 0);
        x.over(1, 2);
        x.look(0, 5);
        x.flip(0);
        x.look(1, 5);
        x.round(-1, 1, 0, 0);
        x.round(2, 0, 1, 0);
        x.round(2, 0, -1, 0);
        x.round(3, 1, 0, 2);
        x.kiss(digits(2, 3, 4, 5));
        x.word(0, 0, -5);
        x.lay(0);
        x.copy(0, 0, -1);
        x.copy(0, 0, -2);
        x.copy(0, 16, 1);
        x.between(1, 199);
        x.beside(1, 3, true);
        x.next(0, 299);
        Due.is("38: MISSING", x.status(-2), 2);
        Due.is("38: BEYOND", x.status(-3), 3);
        Due.is("38: BELOW", x.status(-4), 3);
        Due.is("38: KIND", x.status(-5), 1);
        Due.is("38: COPY", x.status(-6), 1);
        Due.is("38: NO", x.status(-7), 0);
        Due.is("38: FULL", x.status(-8), 1);
        for (int by : new int[] {Integer.MIN_VALUE, -9, -1, 0, 1, 7, Integer.MAX_VALUE}) {
            refuses("38: status(" + by + ")", PromiseTest::bench, y -> y.status(by), -7);
        }
    }
}
