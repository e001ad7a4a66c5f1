/** Promises 26 to 32: each sentence that names a boundary, just inside it, at it and just beyond it. */
public final class FractionBoundsTest extends Benches {
    private static final int[] NO_ROWS = {Integer.MIN_VALUE, -30, -1, 0, 31, 32, 99, 100, Integer.MAX_VALUE};

    /** 0 / 0, 0 / 2, 0 / 99, 1 / 0, 2 / 0, 2 / 1, 2 / 2, 2 / 4, 99 / 98, 99 / 99, 99 / 0, 100 / 1, 100 / 99 and below 0. */
    private static final int[] NONE_AT_ALL = {0, 2, 99, 100, 200, 201, 202, 204, 9998, 9999, 9900, 10001, 10099, -1,
        -99, -100, -101, -102, Integer.MIN_VALUE, Integer.MIN_VALUE + 1, Integer.MAX_VALUE};

    public static void main(String[] args) {
        promise26EveryNumber();
        promise26Near();
        promise26None();
        promise27LowerPart();
        promise27None();
        promise28Rows();
        promise29Places();
        promise30EveryNumber();
        promise30Ends();
        promise30None();
        promise31Rows();
        promise31Shortest();
        promise32Steps();
        Due.end("FractionBoundsTest");
    }

    private static boolean isFraction(int f) {
        int p = Math.floorDiv(f, 100);
        int q = Math.floorMod(f, 100);
        return q >= 1 && p >= 0 && p <= q && divisor(p, q) == 1;
    }

    private static int divisor(int p, int q) {
        return q == 0 ? p : divisor(q, p % q);
    }

    // ---- 26

    /** "q 1 .. 99, p 0 .. q" in lowest terms, "told as 100 p + q": every number from below 0 to above 100 / 99. */
    private static void promise26EveryNumber() {
        RoundKiss x = new RoundKiss();
        int calls = 0;
        int fractions = 0;
        for (int f = -300; f <= 10300; f++) {
            if (calls == 500) {
                x = new RoundKiss();
                calls = 0;
            }
            calls += 2;
            boolean isOne = isFraction(f);
            fractions += isOne ? 1 : 0;
            // 0 / 1 is near to all 1 / q; 1 / 1 to all (q - 1) / q.
            Due.is("26: near(" + f + ", 1)", x.near(f, 1), !isOne ? -7 : f / 100 == 1 ? 1 : 0);
            Due.is("26: near(101, " + f + ")", x.near(101, f), !isOne ? -7 : f / 100 == f % 100 - 1 ? 1 : 0);
        }
        Due.is("26: fractions in all", fractions, 3005);
    }

    /** "NEAR, if p q' - p' q is 1 or -1": not by 0, 2, -2. */
    private static void promise26Near() {
        asks("26: by 0", Benches::bench, x -> x.near(102, 102), 0);
        asks("26: by -1", Benches::bench, x -> x.near(102, 203), 1);
        asks("26: by 1", Benches::bench, x -> x.near(203, 102), 1);
        asks("26: by -2", Benches::bench, x -> x.near(103, 101), 0);
        asks("26: by 2", Benches::bench, x -> x.near(101, 103), 0);
        asks("26: by 2, 1/3 and 1/5", Benches::bench, x -> x.near(103, 105), 0);
        asks("26: by -2, 1/5 and 1/3", Benches::bench, x -> x.near(105, 103), 0);
        asks("26: 0 with itself", Benches::bench, x -> x.near(1, 1), 0);
        asks("26: 1 with itself", Benches::bench, x -> x.near(101, 101), 0);
        asks("26: 97/98 and 98/99", Benches::bench, x -> x.near(9798, 9899), 1);
        asks("26: 98/99 and 97/98", Benches::bench, x -> x.near(9899, 9798), 1);
        asks("26: 96/97 and 98/99", Benches::bench, x -> x.near(9697, 9899), 0);
        asks("26: 0 and 1/99", Benches::bench, x -> x.near(1, 199), 1);
        asks("26: 0 and 2/99", Benches::bench, x -> x.near(1, 299), 0);
    }

    private static void promise26None() {
        for (int f : NONE_AT_ALL) {
            refuses("26: near(" + f + ", 102)", Benches::bench, x -> x.near(f, 102), -7);
            refuses("26: near(102, " + f + ")", Benches::bench, x -> x.near(102, f), -7);
            refuses("26: near of " + f + " twice", Benches::bench, x -> x.near(f, f), -7);
        }
    }

    // ---- 27

    /** "FULL: its lower part is above 99": 98 and 99 are told, 100 isn't. */
    private static void promise27LowerPart() {
        asks("27: 0 and 1/97", Benches::bench, x -> x.between(1, 197), 198);
        asks("27: 0 and 1/98", Benches::bench, x -> x.between(1, 198), 199);
        refuses("27: 0 and 1/99", Benches::bench, x -> x.between(1, 199), -8);
        refuses("27: 1/99 and 0", Benches::bench, x -> x.between(199, 1), -8);
        asks("27: 1 and 97/98", Benches::bench, x -> x.between(101, 9798), 9899);
        refuses("27: 1 and 98/99", Benches::bench, x -> x.between(101, 9899), -8);
        asks("27: 48/49 and 49/50", Benches::bench, x -> x.between(4849, 4950), 9799);
        refuses("27: 49/50 and 50/51, 101 below", Benches::bench, x -> x.between(4950, 5051), -8);
        refuses("27: 1/49 and 1/51 are not near", Benches::bench, x -> x.between(149, 151), -7);
        refuses("27: 97/98 and 98/99, 197 below", Benches::bench, x -> x.between(9798, 9899), -8);
        asks("27: 0 and 1", Benches::bench, x -> x.between(1, 101), 102);
        asks("27: 1 and 0", Benches::bench, x -> x.between(101, 1), 102);
        // 1 / 2 is near to (q + 1) / 2 over q, for each odd q.
        asks("27: 1/2 and 48/95", Benches::bench, x -> x.between(102, 4895), 4997);
        asks("27: 1/2 and 49/97", Benches::bench, x -> x.between(102, 4997), 5099);
        refuses("27: 1/2 and 50/99", Benches::bench, x -> x.between(102, 5099), -8);
    }

    /** "NO: one is none, they are not NEAR", ahead of FULL. */
    private static void promise27None() {
        for (int f : NONE_AT_ALL) {
            refuses("27: between(" + f + ", 102)", Benches::bench, x -> x.between(f, 102), -7);
            refuses("27: between(102, " + f + ")", Benches::bench, x -> x.between(102, f), -7);
        }
        refuses("27: 1/3 and 2/3", Benches::bench, x -> x.between(103, 203), -7);
        refuses("27: itself", Benches::bench, x -> x.between(102, 102), -7);
        refuses("27: not near, 198 below", Benches::bench, x -> x.between(199, 299), -7);
        refuses("27: none, and far below", Benches::bench, x -> x.between(9999, 9899), -7);
        refuses("27: 99/98 is none, though it were near", Benches::bench, x -> x.between(9998, 101), -7);
    }

    // ---- 28, 29

    /** "The ROW of n (1 .. 30)". */
    private static void promise28Rows() {
        int[] totals = new int[31];
        totals[0] = 1;
        for (int n = 1; n <= 30; n++) {
            for (int p = 1; p <= n; p++) {
                totals[n] += divisor(p, n) == 1 ? 1 : 0;
            }
            totals[n] += totals[n - 1];
            int each = n;
            asks("28: fractions(" + n + ")", Benches::bench, x -> x.fractions(each), totals[n]);
        }
        Due.is("28: of 1", totals[1], 2);
        Due.is("28: of 30", totals[30], 279);
        for (int n : NO_ROWS) {
            refuses("28: fractions(" + n + ")", Benches::bench, x -> x.fractions(n), -7);
            for (int i : new int[] {0, -1, 300}) {
                refuses("29: fraction(" + n + ", " + i + "): NO ahead of BEYOND", Benches::bench,
                        x -> x.fraction(n, i), -7);
            }
        }
    }

    /** "FRACTION i of the ROW of n, from 0": the first is 0, the last 1, and behind it is BEYOND. */
    private static void promise29Places() {
        for (int n = 1; n <= 30; n++) {
            int order = n;
            int size = new RoundKiss().fractions(n);
            asks("29: the first of " + n, Benches::bench, x -> x.fraction(order, 0), 1);
            asks("29: the second of " + n, Benches::bench, x -> x.fraction(order, 1), 100 + n);
            asks("29: the last of " + n, Benches::bench, x -> x.fraction(order, size - 1), 101);
            asks("29: ahead of the last of " + n, Benches::bench, x -> x.fraction(order, size - 2), 100 * (n - 1) + n);
            for (int i : new int[] {Integer.MIN_VALUE, -1, size, size + 1, Integer.MAX_VALUE}) {
                refuses("29: fraction(" + n + ", " + i + ")", Benches::bench, x -> x.fraction(order, i), -3);
            }
        }
        RoundKiss x = new RoundKiss();
        Due.is("29: a long row", x.fraction(30, 278), 101);
        Due.is("29: a short row behind it", x.fraction(2, 3), -3);
        Due.is("29: its last", x.fraction(2, 2), 101);
        Due.is("29: the long row again", x.fraction(30, 277), 2930);
    }

    // ---- 30

    /** "NO: it is none of the ROW": of every number those that are, with a lower part of up to n. */
    private static void promise30EveryNumber() {
        for (int n : new int[] {1, 2, 7, 29, 30}) {
            RoundKiss x = new RoundKiss();
            int calls = 0;
            for (int f = -200; f <= 3300; f++) {
                if (calls == 500) {
                    x = new RoundKiss();
                    calls = 0;
                }
                calls += 2;
                boolean isThere = isFraction(f) && f % 100 <= n;
                long behind = x.beside(f, n, false);
                Due.is("30: beside(" + f + ", " + n + ", false)", behind == -7 ? 0 : 1, isThere ? 1 : 0);
                if (behind > 0) {
                    Due.is("30: and back from " + behind, x.beside((int) behind, n, true), f);
                }
            }
        }
    }

    /** "NONE: there is none": behind 1 and ahead of 0. */
    private static void promise30Ends() {
        for (int n = 1; n <= 30; n++) {
            int order = n;
            asks("30: ahead of 0 of " + n, Benches::bench, x -> x.beside(1, order, true), -1);
            asks("30: behind 0 of " + n, Benches::bench, x -> x.beside(1, order, false), 100 + n);
            asks("30: behind 1 of " + n, Benches::bench, x -> x.beside(101, order, false), -1);
            asks("30: ahead of 1 of " + n, Benches::bench, x -> x.beside(101, order, true), 100 * (n - 1) + n);
            if (n > 1) {
                asks("30: ahead of 1 / " + n, Benches::bench, x -> x.beside(100 + order, order, true), 1);
            }
            refuses("30: 1 / " + (n + 1) + " of " + n, Benches::bench, x -> x.beside(101 + order, order, false), -7);
        }
    }

    private static void promise30None() {
        for (boolean down : new boolean[] {false, true}) {
            for (int n : NO_ROWS) {
                refuses("30: n = " + n, Benches::bench, x -> x.beside(1, n, down), -7);
                refuses("30: 1 / 99, n = " + n, Benches::bench, x -> x.beside(199, n, down), -7);
            }
            for (int f : NONE_AT_ALL) {
                refuses("30: beside(" + f + ", 30)", Benches::bench, x -> x.beside(f, 30, down), -7);
            }
            refuses("30: 1 / 31 of 30", Benches::bench, x -> x.beside(131, 30, down), -7);
            refuses("30: 1 / 99 of 30", Benches::bench, x -> x.beside(199, 30, down), -7);
        }
    }

    // ---- 31, 32

    private static void promise31Rows() {
        for (int n : NO_ROWS) {
            refuses("31: n = " + n, Benches::bench, x -> x.way(1, 101, n), -7);
            refuses("31: n = " + n + ", at once", Benches::bench, x -> x.way(1, 1, n), -7);
        }
        for (int f : NONE_AT_ALL) {
            refuses("31: way(" + f + ", 1, 30)", Benches::bench, x -> x.way(f, 1, 30), -7);
            refuses("31: way(1, " + f + ", 30)", Benches::bench, x -> x.way(1, f, 30), -7);
            refuses("31: way(" + f + ", " + f + ", 30)", Benches::bench, x -> x.way(f, f, 30), -7);
        }
        for (int n = 1; n <= 30; n++) {
            int order = n;
            answers("31: 1 / " + n + " of " + n, Benches::bench, x -> x.way(100 + order, 1, order), 1);
            answers("31: to 1 / " + n + " of " + n, Benches::bench, x -> x.way(1, 100 + order, order), 1);
            refuses("31: 1 / " + (n + 1) + " of " + n, Benches::bench, x -> x.way(101 + order, 1, order), -7);
            refuses("31: to 1 / " + (n + 1) + " of " + n, Benches::bench, x -> x.way(1, 101 + order, order), -7);
        }
    }

    private static void isWay(int n, int... stops) {
        int last = stops.length - 1;
        String what = "31: way from " + stops[0] + " to " + stops[last] + " in the row of " + n;
        answers(what, Benches::bench, x -> x.way(stops[0], stops[last], n), last);
        Setup gone = x -> {
            bench(x);
            x.way(stops[0], stops[last], n);
        };
        for (int i = 0; i <= last; i++) {
            int each = i;
            asks(what + ", step(" + i + ")", gone, x -> x.step(each), stops[i]);
        }
        for (int i : new int[] {Integer.MIN_VALUE, -1, last + 1, last + 2, 279, Integer.MAX_VALUE}) {
            refuses(what + ", step(" + i + ")", gone, x -> x.step(i), -3);
        }
    }

    /** "a shortest one; of these the one whose second FRACTION is the least, of these whose third one". */
    private static void promise31Shortest() {
        isWay(1, 1);
        isWay(1, 101);
        isWay(30, 102);
        isWay(30, 2930);
        isWay(1, 1, 101);
        isWay(1, 101, 1);
        isWay(2, 1, 102);
        isWay(2, 102, 101);
        isWay(30, 1, 101);
        // From 2 / 5 to 0: by 1 / 3 and by 1 / 2, of which 1 / 3 is the less; to 1 by 1 / 2 alone.
        isWay(5, 205, 103, 1);
        isWay(5, 205, 102, 101);
        isWay(4, 104, 1, 101, 304);
        isWay(4, 304, 101, 1, 104);
        // From 1 / 3 to 1 / 5: by 0 / 1 and by 1 / 4, of which 0 is the less.
        isWay(5, 103, 1, 105);
        isWay(5, 105, 1, 103);
        // From 2 / 3 to 4 / 5: by 3 / 4 and by 1, of which 3 / 4 is the less.
        isWay(5, 203, 304, 405);
        isWay(5, 405, 304, 203);
        // In the row of 3 there is no 3 / 4.
        isWay(3, 203, 101);
        isWay(8, 207, 104, 1, 101, 405);
    }

    /** "the latest way() that wasn't refused", "MISSING: there was none". */
    private static void promise32Steps() {
        for (int i : new int[] {Integer.MIN_VALUE, -1, 0, 1, Integer.MAX_VALUE}) {
            refuses("32: there was none, step(" + i + ")", Benches::empty, x -> x.step(i), -2);
            refuses("32: there was a refused one, step(" + i + ")", x -> {
                x.way(1, 101, 31);
                x.way(1, 131, 30);
            }, x -> x.step(i), -2);
        }
        Setup refusedLater = x -> {
            x.way(205, 1, 5);
            x.way(205, 1, 4);
            x.way(205, 1, 0);
            x.way(0, 0, 5);
        };
        asks("32: refused ones leave it", refusedLater, x -> x.step(2), 1);
        refuses("32: refused ones leave its end", refusedLater, x -> x.step(3), -3);
        Setup shorter = x -> {
            x.way(104, 304, 4);
            x.way(1, 101, 4);
        };
        asks("32: the latest one", shorter, x -> x.step(1), 101);
        refuses("32: the latest one is shorter", shorter, x -> x.step(2), -3);
        asks("32: other rows leave it", x -> {
            x.way(104, 304, 4);
            x.fractions(30);
            x.fraction(2, 1);
            x.beside(102, 3, true);
        }, x -> x.step(1), 1);
    }
}
