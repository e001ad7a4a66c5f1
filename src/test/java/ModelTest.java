import java.util.HashSet;
import java.util.List;
import java.util.Random;
import java.util.Set;
import java.util.stream.Stream;

/** Random runs of up to 512 calls, with fixed seeds, on RoundKiss and on the slow model of the document. */
public final class ModelTest {
    private static final int RUNS = 400;
    private static final int CALLS = 480;
    private static final int PACKINGS = 80;
    private static final int BILLION = 1_000_000_000;

    private static final int[][][] KISSES = {
        {{-1, 1, 0, 0}, {2, 0, 1, 0}, {2, 0, -1, 0}, {3, 1, 0, 2}},
        {{0, 0, 0, -1}, {0, 2, 0, 1}, {2, 0, 0, 1}, {2, 2, 2, 1}},
        {{0, 0, 0, -1}, {0, 4, 0, 1}, {1, 0, 0, 1}, {1, 4, 2, 1}},
        {{-2, 0, 0, 1}, {3, 0, 0, -1}, {6, 4, 0, -5}, {7, 4, 2, -5}},
        {{-15, -1, 0, -4}, {32, 2, 1, 8}, {32, 2, -1, 8}, {33, 3, 0, 10}},
    };

    private static final String[] CALLS_THERE = {
        "round", "over", "drop", "look", "product", "meet", "mirror", "flip", "kiss", "part", "of", "height", "fourth",
        "swap", "word", "least", "led", "same", "shut", "count", "bends", "next", "rests", "sum", "near", "between",
        "fractions", "fraction", "beside", "way", "step", "lay", "tear", "row", "copy", "give", "status"};

    private final Random random;
    private final String run;
    private final RoundKiss bench = new RoundKiss();
    private final SlowBench model = new SlowBench();
    private int made = 0;

    private ModelTest(int seed) {
        random = new Random(seed);
        run = "run " + seed;
    }

    public static void main(String[] args) {
        int runs = args.length > 0 ? Integer.parseInt(args[0]) : RUNS;
        int first = args.length > 1 ? Integer.parseInt(args[1]) : 0;
        for (int seed = first; seed < first + runs; seed++) {
            new ModelTest(seed).go();
        }
        packings(PACKINGS);
        Due.end("ModelTest");
    }

    private void go() {
        while (made < CALLS) {
            int chance = random.nextInt(40);
            if (chance == 0) {
                bringKiss(anyKiss());
            } else if (chance == 1 && model.kissesThere() > 3) {
                call("part");
            } else if (chance <= 3 && model.roundsThere() > 12) {
                call("drop");
            } else {
                anyCall();
            }
        }
        for (int by = -2; by >= -8; by--) {
            call("status", by);
        }
    }

    /** Packings with leasts that differ, each asked about near the bends of its least and elsewhere. */
    private static void packings(int most) {
        Set<List<Integer>> leasts = new HashSet<>();
        for (int seed = 0; seed < 100 * most && leasts.size() < most; seed++) {
            ModelTest one = new ModelTest(seed);
            one.bringKiss(one.anyKiss());
            RoundKiss x = one.bench;
            if (one.model.kissesThere() > 0 && x.height(0) > 0 && x.shut(0) == 1) {
                one.call("least", 0);
                List<Integer> bends = Stream.of(0, 1, 2, 3).map(place -> x.of(0, place, 0)).sorted().toList();
                if (bends.get(3) < 600 && leasts.add(bends)) {
                    one.packing(bends);
                }
            }
        }
        Due.is("packings", leasts.size(), most);
    }

    private void packing(List<Integer> bends) {
        for (int bend : bends) {
            for (int n = Math.max(0, bend - 1); n <= Math.min(300, bend + 1); n++) {
                upTo(n, bend);
            }
        }
        for (int i = 0; i < 10; i++) {
            upTo(random.nextInt(301), random.nextInt(299));
        }
        upTo(300, 299);
    }

    private void upTo(int n, int number) {
        call("count", 0, n);
        call("bends", 0, n);
        call("rests", 0, n);
        call("next", 0, number - 1);
        call("next", 0, number);
        for (int what = 0; what <= 4; what++) {
            call("sum", 0, n, what);
        }
    }

    // ---- kisses anywhere

    /** A known kiss, led somewhere by swaps and by maps that keep whole numbers, laws and products. */
    private long[][] anyKiss() {
        int family = random.nextInt(6);
        long[][] four = family == 0 ? ringKiss() : family == 1 ? farKiss() : copied(KISSES[random.nextInt(KISSES.length)]);
        int changes = random.nextInt(8);
        for (int i = 0; i < changes; i++) {
            long[][] before = four.clone();
            change(four);
            if (!fits(four)) {
                four = before;
            }
        }
        return four;
    }

    private void change(long[][] four) {
        int s = random.nextInt(5) - 2;
        int t = random.nextInt(5) - 2;
        if (random.nextInt(6) == 0) {
            s *= 1 + random.nextInt(3000);
        }
        int kind = random.nextInt(8);
        if (kind >= 5) {
            swapAt(four, random.nextInt(4));
            return;
        }
        for (int i = 0; i < 4; i++) {
            four[i] = mapped(four[i], kind, s, t);
        }
    }

    private static long[] mapped(long[] r, int kind, int s, int t) {
        switch (kind) {
            case 0: return new long[] {r[1], r[0], r[2], r[3]};
            case 1: return new long[] {r[0], r[1], r[3], r[2]};
            case 2: return new long[] {r[0], r[1], -r[2], r[3]};
            default: break;
        }
        long b = r[1] + 2 * (r[2] * s + r[3] * t) + r[0] * ((long) s * s + (long) t * t);
        return new long[] {r[0], b, r[2] + r[0] * s, r[3] + r[0] * t};
    }

    private static void swapAt(long[][] four, int place) {
        long[] result = new long[4];
        for (int i = 0; i < 4; i++) {
            result[i] = 2 * (four[0][i] + four[1][i] + four[2][i] + four[3][i]) - 3 * four[place][i];
        }
        four[place] = result;
    }

    /** Bends -n, n + 1 and two of the chain between them; or 0, 1 and two squares. */
    private long[][] ringKiss() {
        long n = random.nextInt(random.nextBoolean() ? 12 : 2000);
        long k = random.nextInt(random.nextInt(10) == 0 ? 20000 : 20);
        return new long[][] {{-n, 0, 1, 0}, {n + 1, 0, -1, 0}, {n * n + n + k * k, 4, -1 - 2 * n, 2 * k},
            {n * n + n + (k + 1) * (k + 1), 4, -1 - 2 * n, 2 * k + 2}};
    }

    /** A known kiss so far away that some b, or where it is turned inside out some bend, comes near the limit. */
    private long[][] farKiss() {
        long[][] known = copied(KISSES[random.nextInt(KISSES.length)]);
        long greatest = 1;
        for (long[] r : known) {
            greatest = Math.max(greatest, r[0]);
        }
        double far = Math.sqrt((double) BILLION / greatest);
        double angle = 2 * Math.PI * random.nextDouble();
        int s = (int) (far * Math.cos(angle));
        int t = (int) (far * Math.sin(angle));
        long[][] result = new long[4][];
        boolean isInsideOut = random.nextBoolean();
        for (int i = 0; i < 4; i++) {
            long[] moved = mapped(known[i], 3, s, t);
            result[i] = isInsideOut ? mapped(moved, 0, 0, 0) : moved;
        }
        return fits(result) ? result : known;
    }

    private static long[][] copied(int[][] four) {
        long[][] result = new long[4][4];
        for (int i = 0; i < 4; i++) {
            for (int j = 0; j < 4; j++) {
                result[i][j] = four[i][j];
            }
        }
        return result;
    }

    private static boolean fits(long[][] four) {
        for (long[] r : four) {
            for (long number : r) {
                if (Math.abs(number) > BILLION) {
                    return false;
                }
            }
        }
        return true;
    }

    private void bringKiss(long[][] four) {
        while (model.roundsThere() > 16) {
            call("drop");
        }
        if (model.kissesThere() == 6 && random.nextInt(3) > 0) {
            call("part");
        }
        boolean isTurnedOver = random.nextInt(8) == 0;
        int first = model.roundsThere();
        for (long[] r : four) {
            int sign = isTurnedOver ? -1 : 1;
            call("round", (int) r[0] * sign, (int) r[1] * sign, (int) r[2] * sign, (int) r[3] * sign);
        }
        int a = random.nextInt(4);
        int b = random.nextInt(4);
        call("kiss", first + a + 20 * (first + (a + 1) % 4 + 20 * (first + (a + 2) % 4 + 20 * (first + (a + 3) % 4))));
        if (random.nextInt(4) == 0) {
            call("kiss", first + b + 20 * (first + b + 20 * (first + 2 + 20 * (first + 3))));
        }
    }

    // ---- any calls

    private int round() {
        return random.nextInt(30) == 0 ? wild() : random.nextInt(Math.max(1, model.roundsThere()));
    }

    private int kiss() {
        return random.nextInt(30) == 0 ? wild() : random.nextInt(Math.max(1, model.kissesThere()));
    }

    /** 0 .. most, but for some that are one off or anywhere. */
    private int upTo(int most) {
        return random.nextInt(40) == 0 ? wild() : random.nextInt(25) == 0 ? most + 1 : random.nextInt(most + 1);
    }

    private int wild() {
        int[] some = {Integer.MIN_VALUE, Integer.MAX_VALUE, -1, -BILLION, BILLION, -2, 6, 20, 16, 301};
        return random.nextInt(3) == 0 ? random.nextInt() : some[random.nextInt(some.length)];
    }

    private int fraction(int most) {
        if (random.nextInt(20) == 0) {
            return random.nextInt(2) == 0 ? wild() : random.nextInt(10200);
        }
        int q = 1 + random.nextInt(most);
        int p = random.nextInt(q + 1);
        int divisor = 1;
        for (int d = 2; d <= q; d++) {
            divisor = p % d == 0 && q % d == 0 ? d : divisor;
        }
        return 100 * (p / divisor) + q / divisor;
    }

    private void anyCall() {
        String call = CALLS_THERE[random.nextInt(CALLS_THERE.length)];
        switch (call) {
            case "round": anyRound(); break;
            case "over": call(call, upTo(12), upTo(12)); break;
            case "look": call(call, round(), upTo(6)); break;
            case "product": case "meet": case "mirror": call(call, round(), round()); break;
            case "flip": call(call, round()); break;
            case "kiss": call(call, random.nextInt(3) == 0 ? upTo(160000) : round() * 421 + round() * 8000); break;
            case "of": call(call, kiss(), upTo(3), upTo(3)); break;
            case "height": case "least": case "shut": case "lay": call(call, kiss()); break;
            case "fourth": case "swap": call(call, kiss(), upTo(3)); break;
            case "word": anyWord(); break;
            case "same": call(call, kiss(), kiss()); break;
            case "count": case "bends": case "rests": call(call, kiss(), upTo(random.nextInt(3) == 0 ? 300 : 40)); break;
            case "next": call(call, kiss(), upTo(random.nextInt(3) == 0 ? 299 : 40) - random.nextInt(9)); break;
            case "sum": call(call, kiss(), upTo(random.nextInt(3) == 0 ? 300 : 40), upTo(4)); break;
            case "near": call(call, fraction(5), fraction(5)); break;
            case "between": anyBetween(); break;
            case "fractions": call(call, upTo(30)); break;
            case "fraction": call(call, upTo(30), upTo(60)); break;
            case "beside": call(call, fraction(12), 8 + upTo(22), random.nextInt(2)); break;
            case "way": anyWay(); break;
            case "step": call(call, upTo(4)); break;
            case "row": call(call, upTo(15)); break;
            case "copy": call(call, upTo(8), upTo(8), random.nextInt(12) == 0 ? -upTo(4) : upTo(8)); break;
            case "status": call(call, -2 - random.nextInt(random.nextInt(20) == 0 ? 12 : 7)); break;
            case "drop": case "part": case "tear":
                if (random.nextInt(6) == 0) {
                    call(call);
                }
                break;
            default: call(call); break;
        }
    }

    private void anyRound() {
        int[] some = {0, 1, -1, 2, 3, BILLION, -BILLION, BILLION + 1, 5, 8};
        if (random.nextInt(2) == 0) {
            call("round", some[random.nextInt(10)], some[random.nextInt(10)], some[random.nextInt(5)],
                    some[random.nextInt(5)]);
        } else {
            long[] r = anyKiss()[random.nextInt(4)];
            call("round", (int) r[0], (int) r[1], (int) r[2], (int) r[3]);
        }
    }

    private void anyWord() {
        int n = random.nextInt(10) == 0 ? upTo(16) - 2 : random.nextInt(16);
        int digits = random.nextInt(12) == 0 ? random.nextInt() : random.nextInt(1 << 2 * Math.max(0, Math.min(15, n)));
        call("word", kiss(), digits, n);
    }

    private void anyBetween() {
        int f = fraction(99);
        int q = f % 100;
        int g = random.nextBoolean() ? fraction(9) : q > 0 && f > 0 && f / 100 <= q ? nearTo(f) : 101;
        call("between", f, g);
    }

    private int nearTo(int f) {
        int start = random.nextInt(99);
        for (int i = 0; i < 99; i++) {
            int q = 1 + (start + i) % 99;
            int above = (f / 100) * q + 1;
            if (above % (f % 100) == 0 && above / (f % 100) <= q) {
                return 100 * (above / (f % 100)) + q;
            }
        }
        return 1;
    }

    private void anyWay() {
        int n = 1 + upTo(29);
        int most = n < 1 || n > 30 ? 30 : n;
        call("way", fraction(most), fraction(most), n);
        if (random.nextInt(2) == 0) {
            for (int i = 0; i < 5; i++) {
                call("step", i);
            }
        }
    }

    private void call(String call, int... v) {
        StringBuilder told = new StringBuilder(run).append(", call ").append(made).append(": ").append(call);
        for (int number : v) {
            told.append(' ').append(number);
        }
        made++;
        Due.is(told.toString(), onBench(call, v), model.answer(call, v));
    }

    private long onBench(String call, int... v) {
        switch (call) {
            case "round": return bench.round(v[0], v[1], v[2], v[3]);
            case "over": return bench.over(v[0], v[1]);
            case "drop": return bench.drop();
            case "look": return bench.look(v[0], v[1]);
            case "product": return bench.product(v[0], v[1]);
            case "meet": return bench.meet(v[0], v[1]);
            case "mirror": return bench.mirror(v[0], v[1]);
            case "flip": return bench.flip(v[0]);
            case "kiss": return bench.kiss(v[0]);
            case "part": return bench.part();
            case "of": return bench.of(v[0], v[1], v[2]);
            case "height": return bench.height(v[0]);
            case "fourth": return bench.fourth(v[0], v[1]);
            case "swap": return bench.swap(v[0], v[1]);
            case "word": return bench.word(v[0], v[1], v[2]);
            case "least": return bench.least(v[0]);
            case "led": return bench.led();
            case "same": return bench.same(v[0], v[1]);
            case "shut": return bench.shut(v[0]);
            case "count": return bench.count(v[0], v[1]);
            case "bends": return bench.bends(v[0], v[1]);
            case "next": return bench.next(v[0], v[1]);
            case "rests": return bench.rests(v[0], v[1]);
            case "sum": return bench.sum(v[0], v[1], v[2]);
            default: return onRows(call, v);
        }
    }

    private long onRows(String call, int... v) {
        switch (call) {
            case "near": return bench.near(v[0], v[1]);
            case "between": return bench.between(v[0], v[1]);
            case "fractions": return bench.fractions(v[0]);
            case "fraction": return bench.fraction(v[0], v[1]);
            case "beside": return bench.beside(v[0], v[1], v[2] == 1);
            case "way": return bench.way(v[0], v[1], v[2]);
            case "step": return bench.step(v[0]);
            case "lay": return bench.lay(v[0]);
            case "tear": return bench.tear();
            case "row": return bench.row(v[0]);
            case "copy": return bench.copy(v[0], v[1], v[2]);
            case "give": return bench.give();
            case "status": return bench.status(v[0]);
            default: throw new IllegalArgumentException(call);
        }
    }
}
