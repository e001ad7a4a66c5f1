import java.util.ArrayList;
import java.util.Arrays;
import java.util.List;

/** What has a range that is small enough is tried whole: overs, pairs of fractions, rows, ways. */
public final class WholeRangeTest {
    /** An object's answers are promised for 512 calls; a check makes less than 32. */
    private static final int CHECKS_EACH = 16;

    private static RoundKiss bench = new RoundKiss();
    private static int checks = 0;

    public static void main(String[] args) {
        everyOver();
        everyTwoFractions();
        for (int n = 1; n <= 30; n++) {
            List<Integer> row = fractionsUpTo(n);
            everyPlace(row, n);
            everyWay(row, n);
        }
        Due.end("WholeRangeTest");
    }

    /** A new object, as soon as the one at hand has made enough calls. */
    private static RoundKiss bench() {
        checks++;
        if (checks % CHECKS_EACH == 0) {
            bench = new RoundKiss();
        }
        return bench;
    }

    /** Names are put together only for what failed: there are millions of checks. */
    private static void is(long got, long want, String call, int... numbers) {
        if (got != want) {
            Due.is(call + Arrays.toString(numbers), got, want);
        }
    }

    private static int divisorOf(int p, int q) {
        return q == 0 ? p : divisorOf(q, p % q);
    }

    // ---- promise 3

    private static void everyOver() {
        int there = 0;
        for (int p = -1; p <= 1000; p++) {
            for (int q = 0; q <= 1000; q++) {
                boolean isDue = p >= 0 && p <= 999 && q >= 1 && q <= 999 && divisorOf(p, q) == 1;
                RoundKiss x = bench();
                is(x.over(p, q), isDue ? 0 : RoundKiss.NO, "over", p, q);
                if (isDue) {
                    there++;
                    isOver(x, p, q);
                    is(x.drop(), 0, "drop");
                }
            }
        }
        // Lowest terms come in pairs p / q, q / p, but for 0 / 1 and 1 / 1.
        Due.is("overs", there, 2 * lowestBelow(999) + 2);
    }

    private static int lowestBelow(int most) {
        int found = 0;
        for (int q = 2; q <= most; q++) {
            for (int p = 1; p < q; p++) {
                found += divisorOf(p, q) == 1 ? 1 : 0;
            }
        }
        return found;
    }

    private static void isOver(RoundKiss x, int p, int q) {
        int[] due = {2, 2 * q * q, 2 * p * p, 2 * p * q, 1, p, q};
        for (int what = 0; what <= 6; what++) {
            is(x.look(0, what), due[what], "look at what of p, q:", what, p, q);
        }
    }

    // ---- promises 26, 27

    private static List<Integer> fractionsUpTo(int n) {
        List<Integer> all = new ArrayList<>();
        for (int q = 1; q <= n; q++) {
            for (int p = 0; p <= q; p++) {
                if (divisorOf(p, q) == 1) {
                    all.add(100 * p + q);
                }
            }
        }
        all.sort((f, g) -> (f / 100) * (g % 100) - (g / 100) * (f % 100));
        return all;
    }

    private static boolean areNear(int f, int g) {
        return Math.abs((f / 100) * (g % 100) - (g / 100) * (f % 100)) == 1;
    }

    private static void everyTwoFractions() {
        List<Integer> all = fractionsUpTo(99);
        Due.is("fractions with lower parts up to 99", all.size(), 3005);
        for (int f : all) {
            for (int g : all) {
                RoundKiss x = bench();
                boolean isNear = areNear(f, g);
                is(x.near(f, g), isNear ? 1 : 0, "near", f, g);
                boolean isRoom = f % 100 + g % 100 <= 99;
                is(x.between(f, g), !isNear ? RoundKiss.NO : isRoom ? f + g : RoundKiss.FULL, "between", f, g);
            }
        }
    }

    // ---- promises 28 .. 32

    private static void everyPlace(List<Integer> row, int n) {
        Due.is("fractions(" + n + ")", bench().fractions(n), row.size());
        for (int i = -1; i <= row.size(); i++) {
            boolean isThere = i >= 0 && i < row.size();
            is(bench().fraction(n, i), isThere ? row.get(i) : RoundKiss.BEYOND, "fraction", n, i);
            if (isThere) {
                int behind = i + 1 < row.size() ? row.get(i + 1) : RoundKiss.NONE;
                int ahead = i > 0 ? row.get(i - 1) : RoundKiss.NONE;
                is(bench().beside(row.get(i), n, false), behind, "beside", row.get(i), n, 0);
                is(bench().beside(row.get(i), n, true), ahead, "beside", row.get(i), n, 1);
            }
        }
    }

    private static void everyWay(List<Integer> row, int n) {
        List<List<Integer>> near = new ArrayList<>();
        for (int f : row) {
            List<Integer> places = new ArrayList<>();
            for (int j = 0; j < row.size(); j++) {
                if (areNear(f, row.get(j))) {
                    places.add(j);
                }
            }
            near.add(places);
        }
        for (int i = 0; i < row.size(); i++) {
            int[] before = leastWaysFrom(near, i);
            for (int j = 0; j < row.size(); j++) {
                isWay(row, before, i, j, n);
            }
        }
    }

    /**
     * By place: the one before it on the least of the shortest ways. Those of a distance are found in the order of
     * their ways: by the one before, then by size.
     */
    private static int[] leastWaysFrom(List<List<Integer>> near, int start) {
        int[] before = new int[near.size()];
        Arrays.fill(before, -1);
        before[start] = start;
        List<Integer> found = new ArrayList<>(List.of(start));
        for (int k = 0; k < found.size(); k++) {
            for (int j : near.get(found.get(k))) {
                if (before[j] < 0) {
                    before[j] = found.get(k);
                    found.add(j);
                }
            }
        }
        return before;
    }

    private static void isWay(List<Integer> row, int[] before, int i, int j, int n) {
        List<Integer> due = new ArrayList<>(List.of(j));
        for (int k = j; k != i; k = before[k]) {
            due.add(0, before[k]);
        }
        RoundKiss x = bench();
        is(x.way(row.get(i), row.get(j), n), due.size() - 1, "way", row.get(i), row.get(j), n);
        for (int k = 0; k < due.size(); k++) {
            is(x.step(k), row.get(due.get(k)), "step of a way:", k, row.get(i), row.get(j), n);
        }
        is(x.step(due.size()), RoundKiss.BEYOND, "step behind a way:", row.get(i), row.get(j), n);
    }
}
