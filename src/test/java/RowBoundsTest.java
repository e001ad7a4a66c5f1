/** Promises 33 to 38: each sentence that names a boundary, just inside it, at it and just beyond it. */
public final class RowBoundsTest extends Benches {
    private static final int ALL = 16;
    private static final int MOST_CALLS = 512;

    /** The row of kiss 1 of the rich bench. */
    private static final int[] LAID = {-2, 0, 0, 1, 3, 0, 0, -1, 6, 4, 0, -5, 7, 4, 2, -5};

    public static void main(String[] args) {
        promise33Lay();
        promise34Tear();
        promise35Row();
        promise36Counts();
        promise36Ends();
        promise36AsTheyWere();
        promise37Missing();
        promise37Laws();
        promise37Touch();
        promise37Full();
        promise38Numbers();
        promise38Counts();
        theLastCalls();
        Due.end("RowBoundsTest");
    }

    private static void torn(RoundKiss x) {
        rich(x);
        x.tear();
    }

    // ---- 33, 34

    private static void promise33Lay() {
        answers("33: the first kiss", Benches::threeKisses, x -> x.lay(0), ALL);
        answers("33: the last kiss", Benches::threeKisses, x -> x.lay(2), ALL);
        refuses("33: behind the last kiss", Benches::rich, x -> x.lay(3), -3);
        refuses("33: ahead of the first kiss", Benches::rich, x -> x.lay(-1), -3);
        refuses("33: behind the last kiss, the row missing", RowBoundsTest::torn, x -> x.lay(3), -3);
        sixteenAre("33: place by place", made(Benches::rich), LAID);
        RoundKiss x = made(Benches::rich);
        x.copy(0, 8, 8);
        x.lay(1);
        sixteenAre("33: all of it is laid again", x, LAID);
        x.lay(2);
        for (int i = 0; i < ALL; i++) {
            Due.is("33: another kiss, row(" + i + ")", x.row(i), -LAID[i]);
        }
    }

    /** "1 if it was there, else 0 (at first it is missing)": 0 is no refusal. */
    private static void promise34Tear() {
        asks("34: at first", Benches::empty, x -> x.tear(), 0);
        asks("34: at first, beside kisses", Benches::threeKisses, x -> x.tear(), 0);
        answers("34: where it is there", Benches::rich, x -> x.tear(), 1);
        asks("34: torn before", RowBoundsTest::torn, x -> x.tear(), 0);
        answers("34: laid again", x -> {
            torn(x);
            x.lay(0);
        }, x -> x.tear(), 1);
        asks("34: a refused lay() lays nothing", x -> {
            threeKisses(x);
            x.lay(3);
        }, x -> x.tear(), 0);
        refuses("34: then row() is MISSING", RowBoundsTest::torn, x -> x.row(0), -2, 0);
        refuses("34: then copy() is MISSING", RowBoundsTest::torn, x -> x.copy(0, 0, 0), -2);
        refuses("34: then give() is MISSING", RowBoundsTest::torn, x -> x.give(), -2);
    }

    // ---- 35

    private static void promise35Row() {
        for (int i = 0; i < ALL; i++) {
            int each = i;
            asks("35: row(" + i + ")", Benches::rich, x -> x.row(each), LAID[i]);
        }
        for (int i : new int[] {Integer.MIN_VALUE, -1, 16, 17, Integer.MAX_VALUE}) {
            refuses("35: row(" + i + ")", Benches::rich, x -> x.row(i), -3, 0);
            refuses("35: MISSING ahead of BEYOND, row(" + i + ")", RowBoundsTest::torn, x -> x.row(i), -2, 0);
            refuses("35: at first, row(" + i + ")", Benches::threeKisses, x -> x.row(i), -2, 0);
        }
        refuses("35: missing, row(0)", RowBoundsTest::torn, x -> x.row(0), -2, 0);
        refuses("35: missing, row(15)", RowBoundsTest::torn, x -> x.row(15), -2, 0);
    }

    // ---- 36

    /** "MISSING, BELOW: n". */
    private static void promise36Counts() {
        asks("36: n = 0", Benches::rich, x -> x.copy(0, 8, 0), 0);
        answers("36: n = 1", Benches::rich, x -> x.copy(0, 8, 1), 1);
        answers("36: n = 15", Benches::rich, x -> x.copy(0, 1, 15), 15);
        asks("36: n = 16", Benches::rich, x -> x.copy(0, 0, 16), 16);
        refuses("36: n = 17", Benches::rich, x -> x.copy(0, 0, 17), -6);
        refuses("36: n = -1", Benches::rich, x -> x.copy(0, 0, -1), -4);
        refuses("36: n the least int", Benches::rich, x -> x.copy(0, 0, Integer.MIN_VALUE), -4);
        refuses("36: n the greatest int", Benches::rich, x -> x.copy(0, 0, Integer.MAX_VALUE), -6);
        refuses("36: BELOW ahead of COPY of i", Benches::rich, x -> x.copy(-1, 0, -1), -4);
        refuses("36: BELOW ahead of COPY of j", Benches::rich, x -> x.copy(0, 17, -1), -4);
        refuses("36: BELOW ahead of COPY of both", Benches::rich, x -> x.copy(17, -1, -1), -4);
        refuses("36: MISSING ahead of BELOW", RowBoundsTest::torn, x -> x.copy(0, 0, -1), -2);
        refuses("36: MISSING ahead of COPY", RowBoundsTest::torn, x -> x.copy(-1, 0, 0), -2);
        refuses("36: MISSING ahead of both", RowBoundsTest::torn, x -> x.copy(-1, 17, -1), -2);
        refuses("36: MISSING, n = 0", RowBoundsTest::torn, x -> x.copy(0, 0, 0), -2);
    }

    /** "COPY: i or j below 0, i + n or j + n above 16": for each n the last that fits and the first that doesn't. */
    private static void promise36Ends() {
        for (int n = 0; n <= ALL; n++) {
            int each = n;
            int last = ALL - n;
            answers("36: i at the end, n = " + n, Benches::rich, x -> x.copy(last, 0, each), n);
            answers("36: j at the end, n = " + n, Benches::rich, x -> x.copy(0, last, each), n);
            asks("36: both at the end, n = " + n, Benches::rich, x -> x.copy(last, last, each), n);
            refuses("36: i behind the end, n = " + n, Benches::rich, x -> x.copy(last + 1, 0, each), -6);
            refuses("36: j behind the end, n = " + n, Benches::rich, x -> x.copy(0, last + 1, each), -6);
            refuses("36: i below 0, n = " + n, Benches::rich, x -> x.copy(-1, 0, each), -6);
            refuses("36: j below 0, n = " + n, Benches::rich, x -> x.copy(0, -1, each), -6);
            refuses("36: i + n wraps around, n = " + n, Benches::rich, x -> x.copy(Integer.MAX_VALUE, 0, each), -6);
            refuses("36: j + n wraps around, n = " + n, Benches::rich, x -> x.copy(0, Integer.MAX_VALUE, each), -6);
            refuses("36: i the least int, n = " + n, Benches::rich, x -> x.copy(Integer.MIN_VALUE, 0, each), -6);
            refuses("36: j the least int, n = " + n, Benches::rich, x -> x.copy(0, Integer.MIN_VALUE, each), -6);
        }
        for (int i = 1; i <= 17; i++) {
            int each = i;
            refuses("36: " + i + " + n wraps around", Benches::rich, x -> x.copy(each, 0, Integer.MAX_VALUE), -6);
            refuses("36: n wraps around from j = " + i, Benches::rich, x -> x.copy(0, each, Integer.MAX_VALUE), -6);
        }
    }

    /** "(as they were)": numbers that are copied over are read first. */
    private static void promise36AsTheyWere() {
        for (int i = 0; i <= 8; i++) {
            for (int j = 0; j <= 8; j++) {
                int n = 8;
                int[] due = LAID.clone();
                for (int k = 0; k < n; k++) {
                    due[j + k] = LAID[i + k];
                }
                RoundKiss x = made(Benches::rich);
                Due.is("36: copy(" + i + ", " + j + ", 8)", x.copy(i, j, n), n);
                sixteenAre("36: copy(" + i + ", " + j + ", 8)", x, due);
                Due.is("36: the kiss stays", x.of(1, 1, 0), 3);
            }
        }
    }

    // ---- 37

    private static void promise37Missing() {
        refuses("37: at first", Benches::threeKisses, x -> x.give(), -2);
        refuses("37: torn", RowBoundsTest::torn, x -> x.give(), -2);
        refuses("37: MISSING ahead of FULL", kisses(6), x -> x.give(), -2);
        refuses("37: MISSING ahead of NO", x -> {
            rich(x);
            x.copy(0, 4, 4);
            x.tear();
        }, x -> x.give(), -2);
    }

    /**
     * "NO: a law isn't kept": at each place, where all still touch. (A number beyond 10^9 can't stand in THE ROW, as
     * its numbers come from kisses.)
     */
    private static void promise37Laws() {
        // 3, 1, 0, 0 instead of 3, 1, 0, 2 has the products -2 with -1, 1, 0, 0 and 2, 0, 1, 0 and 2, 0, -1, 0.
        int[][] orders = {{3, 0, 1, 2}, {0, 3, 1, 2}, {0, 1, 3, 2}, {0, 1, 2, 3}};
        for (int place = 0; place < 4; place++) {
            int[] d = orders[place];
            int zero = 4 * (place == 0 ? 1 : 0) + 3;
            int y = 4 * place + 3;
            Setup laid = x -> {
                kisses(0).on(x);
                x.kiss(digits(d[0], d[1], d[2], d[3]));
                x.lay(0);
            };
            answers("37: the law is kept", laid, x -> x.give(), 1);
            refuses("37: the law isn't kept at " + place, x -> {
                laid.on(x);
                x.copy(zero, y, 1);
            }, x -> x.give(), -7);
        }
        refuses("37: sixteen times 0", x -> {
            rich(x);
            for (int i = 0; i < ALL; i++) {
                x.copy(1, i, 1);
            }
        }, x -> x.give(), -7);
    }

    /** "NO: two don't TOUCH": each pair by itself; the laws are kept. */
    private static void promise37Touch() {
        for (int i = 0; i < 4; i++) {
            for (int j = 0; j < 4; j++) {
                int from = 4 * i;
                int to = 4 * j;
                Setup twice = x -> {
                    rich(x);
                    x.copy(from, to, 4);
                };
                if (i == j) {
                    answers("37: a place over itself", twice, x -> x.give(), 3);
                } else {
                    refuses("37: place " + i + " at " + j + " too", twice, x -> x.give(), -7);
                }
            }
        }
        giveOfNoKiss();
    }

    /** "(it need not have come from one)": numbers of a kiss in an order that no kiss had. */
    private static void giveOfNoKiss() {
        Setup laid = x -> {
            threeKisses(x);
            x.lay(0);
        };
        Setup otherPlaces = x -> {
            laid.on(x);
            x.copy(12, 8, 4);
            x.copy(1, 13, 1);
            x.copy(0, 14, 1);
        };
        answers("37: places 2 and 3 of another order", otherPlaces, x -> x.give(), 3);
        Setup otherWay = x -> {
            laid.on(x);
            for (int place = 0; place < 4; place++) {
                x.copy(4 * place + 3, 4 * place + 2, 1);
                x.copy(place == 3 ? 12 : 0, 4 * place + 3, 1);
            }
        };
        answers("37: x and y in another order", otherWay, x -> x.give(), 3);
        RoundKiss x = made(otherWay);
        x.give();
        x.lay(3);
        sixteenAre("37: x and y in another order", x, 0, 0, -1, 0, 0, 2, 1, 0, 2, 0, 1, 0, 2, 2, 1, 2);
    }

    /** "FULL": the sixth comes, a seventh doesn't; NO is told ahead of it. */
    private static void promise37Full() {
        for (int many = 1; many <= 5; many++) {
            int each = many;
            answers("37: beside " + many, x -> {
                kisses(each).on(x);
                x.lay(each - 1);
            }, x -> x.give(), many);
        }
        Setup six = x -> {
            kisses(6).on(x);
            x.lay(5);
        };
        refuses("37: beside six", six, x -> x.give(), -8);
        refuses("37: NO ahead of FULL, by touch", x -> {
            six.on(x);
            x.copy(0, 4, 4);
        }, x -> x.give(), -7);
        refuses("37: NO ahead of FULL, by the law", x -> {
            six.on(x);
            x.copy(14, 15, 1);
        }, x -> x.give(), -7);
        answers("37: where one has parted", x -> {
            six.on(x);
            x.part();
        }, x -> x.give(), 5);
        answers("37: where all have parted", x -> {
            six.on(x);
            for (int i = 0; i < 6; i++) {
                x.part();
            }
        }, x -> x.give(), 0);
    }

    // ---- 38

    /** "by an answer -2 .. -8", "NO: another number": -1 and -9 are others. */
    private static void promise38Numbers() {
        for (int by = -8; by <= -2; by++) {
            int each = by;
            asks("38: status(" + by + ") of a new object", Benches::empty, x -> x.status(each), 0);
        }
        for (int by : new int[] {Integer.MIN_VALUE, -100, -10, -9, -1, 0, 1, 2, 3, 7, 8, Integer.MAX_VALUE}) {
            refuses("38: status(" + by + ")", Benches::empty, x -> x.status(by), -7);
            refuses("38: status(" + by + ") of a rich one", Benches::rich, x -> x.status(by), -7);
        }
    }

    private static void countsUp(String what, int by, Setup setup, Call call) {
        RoundKiss x = made(setup);
        int before = x.status(by);
        for (int i = 1; i <= 3; i++) {
            call.on(x);
            Due.is(what + ", " + i + " times", x.status(by), before + i);
        }
    }

    /** "How many calls were refused by an answer", "(of those that tell 0 by what they tell)". */
    private static void promise38Counts() {
        countsUp("38: MISSING of row(), which tells 0", -2, Benches::empty, x -> x.row(0));
        countsUp("38: MISSING of drop()", -2, Benches::empty, x -> x.drop());
        countsUp("38: MISSING of step()", -2, Benches::empty, x -> x.step(0));
        countsUp("38: BEYOND of row(), which tells 0", -3, Benches::rich, x -> x.row(16));
        countsUp("38: BEYOND of product(), which tells 0", -3, Benches::rich, x -> x.product(0, 12));
        countsUp("38: BEYOND of height(), which tells 0", -3, Benches::rich, x -> x.height(3));
        countsUp("38: BEYOND of sum(), which tells 0", -3, Benches::rich, x -> x.sum(3, 0, 0));
        countsUp("38: BEYOND of lay()", -3, Benches::rich, x -> x.lay(3));
        countsUp("38: BELOW of word()", -4, Benches::rich, x -> x.word(1, 0, -1));
        countsUp("38: BELOW of copy()", -4, Benches::rich, x -> x.copy(0, 0, -1));
        countsUp("38: KIND of look(), which tells 0", -5, Benches::rich, x -> x.look(0, 5));
        countsUp("38: COPY of copy()", -6, Benches::rich, x -> x.copy(0, 0, 17));
        countsUp("38: NO of look(), which tells 0", -7, Benches::rich, x -> x.look(0, 7));
        countsUp("38: NO of of(), which tells 0", -7, Benches::rich, x -> x.of(0, 0, 4));
        countsUp("38: NO of sum(), which tells 0", -7, Benches::rich, x -> x.sum(1, 0, 5));
        countsUp("38: NO of round()", -7, Benches::rich, x -> x.round(0, 0, 0, 0));
        countsUp("38: NO of status()", -7, Benches::rich, x -> x.status(-1));
        countsUp("38: FULL of between()", -8, Benches::rich, x -> x.between(1, 199));
        countsUp("38: FULL of round()", -8, rounds(20), x -> x.round(3, 1, 0, 2));
    }

    /** "An object is used for at most 512 calls": the last of them is answered as the first. */
    private static void theLastCalls() {
        RoundKiss x = new RoundKiss();
        for (int i = 1; i < MOST_CALLS; i++) {
            x.drop();
        }
        Due.is("38: the call 512 tells of the 511 ahead of it", x.status(-2), MOST_CALLS - 1);
        RoundKiss dear = made(kisses(1));
        for (int call = 6; call <= MOST_CALLS; call++) {
            Due.is("21: call " + call, dear.count(0, 300), 695);
        }
        RoundKiss ways = new RoundKiss();
        for (int i = 0; i < MOST_CALLS / 2; i++) {
            Due.is("31: call " + (2 * i + 1), ways.way(104, 304, 30), 3);
            Due.is("32: call " + (2 * i + 2), ways.step(2), 101);
        }
    }
}
