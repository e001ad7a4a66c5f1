import java.util.ArrayList;
import java.util.List;

/** Benches that tests start from, and what a call that is answered or refused must keep to. */
class Benches {
    static final int BILLION = 1_000_000_000;

    interface Setup {
        void on(RoundKiss x);
    }

    interface Call {
        long on(RoundKiss x);
    }

    // ---- benches to start from

    static void empty(RoundKiss x) {
    }

    /** Rounds 0 .. 7 of all kinds, kiss 0 (shut: -1, 2, 2, 3), the row laid, a least and a way behind it. */
    static void bench(RoundKiss x) {
        x.round(-1, 1, 0, 0);
        x.round(2, 0, 1, 0);
        x.round(2, 0, -1, 0);
        x.round(3, 1, 0, 2);
        x.over(1, 2);
        x.round(0, 5, 1, 0);
        x.mirror(4, 1);
        x.flip(4);
        x.kiss(digits(0, 1, 2, 3));
        x.word(0, 1, 2);
        x.least(0);
        x.way(102, 103, 5);
        x.lay(0);
    }

    /** Kiss 0 is open (0, 0, 2, 2), kiss 1 shut, kiss 2 has a height below 0. */
    static void threeKisses(RoundKiss x) {
        x.round(0, 0, 0, -1);
        x.round(0, 2, 0, 1);
        x.over(0, 1);
        x.over(1, 1);
        x.kiss(digits(0, 1, 2, 3));
        x.round(-2, 0, 0, 1);
        x.round(3, 0, 0, -1);
        x.round(6, 4, 0, -5);
        x.round(7, 4, 2, -5);
        x.kiss(digits(4, 5, 6, 7));
        x.flip(4);
        x.flip(5);
        x.flip(6);
        x.flip(7);
        x.kiss(digits(8, 9, 10, 11));
    }

    static void twentyRounds(RoundKiss x) {
        bench(x);
        for (int i = 8; i < 20; i++) {
            x.round(1, i * i - 1, i, 0);
        }
    }

    static void sixKisses(RoundKiss x) {
        bench(x);
        for (int i = 1; i < 6; i++) {
            x.kiss(digits(3, 2, 1, 0));
        }
    }

    /** Bends 0, 1, k k, (k + 1)(k + 1): led back by some k swaps. */
    static void longKiss(RoundKiss x, int k) {
        x.round(0, 0, 0, -1);
        x.round(1, 0, 0, 1);
        x.round(k * k, 4, 2 * k, 1);
        x.round((k + 1) * (k + 1), 4, 2 * k + 2, 1);
        x.kiss(digits(0, 1, 2, 3));
    }

    /** Circles of radius 1 about the points 0, 0 and 1, 0 and so on, as many as told. */
    static Setup rounds(int many) {
        return x -> {
            for (int i = 0; i < many; i++) {
                x.round(1, i * i - 1, i, 0);
            }
        };
    }

    /** A kiss of four rounds on an object that is new but for them; the rounds are 0 .. 3. */
    static Setup kissOf(int[][] four) {
        return x -> {
            for (int[] r : four) {
                x.round(r[0], r[1], r[2], r[3]);
            }
            x.kiss(digits(0, 1, 2, 3));
        };
    }

    /** Bends -1, 2, 2, 3, as many kisses of them as told. */
    static Setup kisses(int many) {
        return x -> {
            x.round(-1, 1, 0, 0);
            x.round(2, 0, 1, 0);
            x.round(2, 0, -1, 0);
            x.round(3, 1, 0, 2);
            for (int i = 0; i < many; i++) {
                x.kiss(digits(0, 1, 2, 3));
            }
        };
    }

    /** The three kisses, kiss 1 led back by a swap at place 1; a way of two steps; the row of kiss 1. */
    static void rich(RoundKiss x) {
        threeKisses(x);
        x.swap(1, 1);
        x.least(1);
        x.way(103, 203, 3);
        x.lay(1);
    }

    /** The same rounds, seen from the circle of radius 1 about the point 0, 0: a and b change places. */
    static int[][] insideOut(int[][] four) {
        int[][] result = new int[4][];
        for (int i = 0; i < 4; i++) {
            result[i] = new int[] {four[i][1], four[i][0], four[i][2], four[i][3]};
        }
        return result;
    }

    static int[][] otherSides(int[][] four) {
        int[][] result = new int[4][4];
        for (int i = 0; i < 4; i++) {
            for (int j = 0; j < 4; j++) {
                result[i][j] = -four[i][j];
            }
        }
        return result;
    }

    static RoundKiss made(Setup setup) {
        RoundKiss x = new RoundKiss();
        setup.on(x);
        return x;
    }

    static int digits(int first, int second, int third, int fourth) {
        return first + 20 * (second + 20 * (third + 20 * fourth));
    }

    // ---- what a refusal must keep to

    /** A refused call changes nothing but status(): a twin that was not called shows the same. */
    static void refuses(String what, Setup setup, Call call, int reason, long answer) {
        RoundKiss called = made(setup);
        RoundKiss twin = made(setup);
        Due.is(what, call.on(called), answer);
        for (int by = -2; by >= -8; by--) {
            int more = by == reason ? 1 : 0;
            Due.is(what + ", then status(" + by + ")", called.status(by), twin.status(by) + more);
        }
        Due.holds(what + " changed something", seen(called).equals(seen(twin)));
    }

    static void refuses(String what, Setup setup, Call call, int reason) {
        refuses(what, setup, call, reason, reason);
    }

    static void answers(String what, Setup setup, Call call, long answer) {
        RoundKiss called = made(setup);
        RoundKiss twin = made(setup);
        Due.is(what, call.on(called), answer);
        for (int by = -2; by >= -8; by--) {
            Due.is(what + ", then status(" + by + ")", called.status(by), twin.status(by));
        }
    }

    /** A call that is answered and leaves all as it is, status() too. */
    static void asks(String what, Setup setup, Call call, long answer) {
        answers(what, setup, call, answer);
        RoundKiss called = made(setup);
        call.on(called);
        Due.holds(what + " changed something", seen(called).equals(seen(made(setup))));
    }

    /** All that calls can see of an object but for status(); some 270 calls. */
    static List<Long> seen(RoundKiss x) {
        List<Long> all = new ArrayList<>();
        for (int i = 0; i < 20; i++) {
            for (int what = 0; what <= 6; what++) {
                all.add((long) x.look(i, what));
            }
        }
        for (int kiss = 0; kiss < 6; kiss++) {
            for (int place = 0; place < 4; place++) {
                for (int what = 0; what < 4; what++) {
                    all.add((long) x.of(kiss, place, what));
                }
            }
        }
        all.add((long) x.led());
        for (int i = 0; i < 8; i++) {
            all.add((long) x.step(i));
        }
        for (int i = 0; i < 16; i++) {
            all.add((long) x.row(i));
        }
        all.add((long) x.drop());
        all.add((long) x.part());
        all.add((long) x.tear());
        return all;
    }

    static void numbersAre(String what, RoundKiss x, int round, int... numbers) {
        for (int i = 0; i < numbers.length; i++) {
            Due.is(what + ", look(" + round + ", " + i + ")", x.look(round, i), numbers[i]);
        }
    }

    static void bendsAre(String what, RoundKiss x, int kiss, int... bends) {
        for (int place = 0; place < 4; place++) {
            Due.is(what + ", of(" + kiss + ", " + place + ", 0)", x.of(kiss, place, 0), bends[place]);
        }
    }

    static void sixteenAre(String what, RoundKiss x, int... numbers) {
        for (int i = 0; i < 16; i++) {
            Due.is(what + ", row(" + i + ")", x.row(i), numbers[i]);
        }
    }
}
