import java.math.BigInteger;
import java.util.ArrayDeque;
import java.util.ArrayList;
import java.util.Arrays;
import java.util.Comparator;
import java.util.Deque;
import java.util.HashMap;
import java.util.HashSet;
import java.util.List;
import java.util.Map;
import java.util.Set;

/**
 * The document's words in their slowest form: numbers without bounds, packings as sets of rounds whose touching
 * is seen by their products, ways by comparing whole ways. It shares no code and no trick with RoundKiss.
 */
final class SlowBench {
    private static final BigInteger LIMIT = BigInteger.TEN.pow(9);
    private static final BigInteger TWO = BigInteger.TWO;
    private static final Set<Integer> FRACTIONS = allFractions();
    private static final Map<Integer, List<Integer>> ROWS = new HashMap<>();

    private record Shape(int kind, BigInteger[] numbers, int p, int q) {
    }

    private record Packed(List<BigInteger[]> least, List<BigInteger[]> rounds) {
    }

    private final List<Shape> shapes = new ArrayList<>();
    private final List<BigInteger[][]> kisses = new ArrayList<>();
    private final Map<Integer, Integer> refused = new HashMap<>();
    private List<Integer> way = null;
    private BigInteger[] sheet = null;
    private int led = 0;

    int roundsThere() {
        return shapes.size();
    }

    int kissesThere() {
        return kisses.size();
    }

    long answer(String call, int... v) {
        switch (call) {
            case "round": return newRound(big(v));
            case "over": return over(v[0], v[1]);
            case "drop": return shapes.isEmpty() ? no(-2) : removeLast(shapes);
            case "look": return look(v[0], v[1]);
            case "product": return hasRounds(v) ? times(numbers(v[0]), numbers(v[1])).longValueExact() : zero(-3);
            case "meet": return hasRounds(v) ? meet(numbers(v[0]), numbers(v[1])) : no(-3);
            case "mirror": return hasRounds(v) ? put(3, mirror(numbers(v[0]), numbers(v[1]))) : no(-3);
            case "flip": return hasRounds(v) ? flip(numbers(v[0])) : no(-3);
            case "kiss": return kiss(v[0]);
            case "part": return kisses.isEmpty() ? no(-2) : removeLast(kisses);
            case "of": return of(v[0], v[1], v[2]);
            case "height": return isKiss(v[0]) ? height(kisses.get(v[0])).longValueExact() : zero(-3);
            case "fourth": return isPlace(v[0], v[1])
                    ? swapped(kisses.get(v[0]), v[1])[v[1]][0].longValueExact() : zero(-3);
            case "swap": return isPlace(v[0], v[1]) ? swap(v[0], v[1]) : no(-3);
            case "word": return word(v[0], v[1], v[2]);
            case "least": return least(v[0]);
            case "led": return led;
            case "same": return same(v[0], v[1]);
            case "shut": return shut(v[0]);
            case "count": case "bends": case "next": case "rests": case "sum": return packing(call, v);
            case "near": return isFraction(v[0]) && isFraction(v[1]) ? (areNear(v[0], v[1]) ? 1 : 0) : no(-7);
            case "between": return between(v[0], v[1]);
            case "fractions": return v[0] < 1 || v[0] > 30 ? no(-7) : rowOf(v[0]).size();
            case "fraction": return fraction(v[0], v[1]);
            case "beside": return beside(v[0], v[1], v[2] == 1);
            case "way": return way(v[0], v[1], v[2]);
            case "step": return way == null ? no(-2) : v[0] < 0 || v[0] >= way.size() ? no(-3) : way.get(v[0]);
            case "lay": return isKiss(v[0]) ? lay(kisses.get(v[0])) : no(-3);
            case "tear": return tear();
            case "row": return sheet == null ? zero(-2) : v[0] < 0 || v[0] > 15 ? zero(-3) : sheet[v[0]].intValueExact();
            case "copy": return copy(v[0], v[1], v[2]);
            case "give": return sheet == null ? no(-2) : give();
            case "status": return v[0] > -2 || v[0] < -8 ? no(-7) : refused.getOrDefault(v[0], 0);
            default: throw new IllegalArgumentException(call);
        }
    }

    private long no(int by) {
        refused.merge(by, 1, Integer::sum);
        return by;
    }

    private long zero(int by) {
        no(by);
        return 0;
    }

    private static <T> int removeLast(List<T> list) {
        list.remove(list.size() - 1);
        return list.size();
    }

    // ---- rounds

    private static BigInteger[] big(int... v) {
        return Arrays.stream(v).mapToObj(BigInteger::valueOf).toArray(BigInteger[]::new);
    }

    private static BigInteger times(BigInteger[] r, BigInteger[] s) {
        BigInteger across = r[2].multiply(s[2]).add(r[3].multiply(s[3]));
        return TWO.multiply(across).subtract(r[0].multiply(s[1])).subtract(s[0].multiply(r[1]));
    }

    private static boolean fits(BigInteger... numbers) {
        return Arrays.stream(numbers).allMatch(n -> n.abs().compareTo(LIMIT) <= 0);
    }

    /** The law, by the product of a round with itself. */
    private static boolean isLawful(BigInteger... r) {
        return fits(r) && times(r, r).equals(TWO);
    }

    private boolean hasRounds(int... rounds) {
        return Arrays.stream(rounds).allMatch(r -> r >= 0 && r < shapes.size());
    }

    private BigInteger[] numbers(int round) {
        return shapes.get(round).numbers;
    }

    private long put(Shape shape) {
        if (shapes.size() == 20 || !fits(shape.numbers)) {
            return no(-8);
        }
        shapes.add(shape);
        return shapes.size() - 1;
    }

    private long put(int kind, BigInteger[] r) {
        return put(new Shape(kind, r, 0, 0));
    }

    private long newRound(BigInteger[] r) {
        return isLawful(r) ? put(r[0].signum() == 0 ? 1 : 0, r) : no(-7);
    }

    private long over(int p, int q) {
        if (p < 0 || p > 999 || q < 1 || q > 999 || BigInteger.valueOf(p).gcd(BigInteger.valueOf(q)).intValue() != 1) {
            return no(-7);
        }
        return put(new Shape(2, big(2 * q * q, 2 * p * p, 2 * p * q, 1), p, q));
    }

    private long look(int round, int what) {
        if (!hasRounds(round)) {
            return zero(-3);
        }
        Shape shape = shapes.get(round);
        if (what == 0) {
            return shape.kind;
        }
        if (what >= 1 && what <= 4) {
            return shape.numbers[what - 1].intValueExact();
        }
        if (what == 5 || what == 6) {
            return shape.kind != 2 ? zero(-5) : what == 5 ? shape.p : shape.q;
        }
        return zero(-7);
    }

    private static int meet(BigInteger[] r, BigInteger[] s) {
        if (Arrays.equals(r, s)) {
            return 0;
        }
        BigInteger product = times(r, s);
        if (product.bitLength() > 8) {
            return product.signum() < 0 ? 5 : 6;
        }
        int p = product.intValueExact();
        return p == -2 ? 1 : p == 2 ? 2 : p == 0 ? 3 : p == 1 || p == -1 ? 4 : p < -2 ? 5 : 6;
    }

    private static BigInteger[] mirror(BigInteger[] r, BigInteger[] s) {
        BigInteger product = times(r, s);
        BigInteger[] turned = new BigInteger[4];
        for (int i = 0; i < 4; i++) {
            turned[i] = r[i].subtract(product.multiply(s[i]));
        }
        return turned;
    }

    private long flip(BigInteger[] r) {
        return newRound(Arrays.stream(r).map(BigInteger::negate).toArray(BigInteger[]::new));
    }

    // ---- kisses

    private boolean isKiss(int kiss) {
        return kiss >= 0 && kiss < kisses.size();
    }

    private boolean isPlace(int kiss, int place) {
        return isKiss(kiss) && place >= 0 && place <= 3;
    }

    private long keep(BigInteger[][] four) {
        for (int i = 0; i < 4; i++) {
            for (int j = 0; j < 4; j++) {
                if (i == j ? !isLawful(four[i]) : !times(four[i], four[j]).equals(TWO.negate())) {
                    return no(-7);
                }
            }
        }
        if (kisses.size() == 6) {
            return no(-8);
        }
        kisses.add(four);
        return kisses.size() - 1;
    }

    private long kiss(int rounds) {
        String told = Integer.toString(rounds, 20);
        if (rounds < 0 || told.length() > 4) {
            return no(-3);
        }
        String four = "0".repeat(4 - told.length()) + told;
        BigInteger[][] numbers = new BigInteger[4][];
        for (int place = 0; place < 4; place++) {
            int round = Character.digit(four.charAt(3 - place), 20);
            if (!hasRounds(round)) {
                return no(-3);
            }
            numbers[place] = numbers(round);
        }
        return keep(numbers);
    }

    private long of(int kiss, int place, int what) {
        if (!isPlace(kiss, place)) {
            return zero(-3);
        }
        return what < 0 || what > 3 ? zero(-7) : kisses.get(kiss)[place][what].intValueExact();
    }

    private static BigInteger height(BigInteger[][] four) {
        return four[0][0].add(four[1][0]).add(four[2][0]).add(four[3][0]);
    }

    private static BigInteger[][] swapped(BigInteger[][] four, int place) {
        BigInteger[][] result = four.clone();
        result[place] = new BigInteger[4];
        for (int i = 0; i < 4; i++) {
            BigInteger others = BigInteger.ZERO;
            for (int other = 0; other < 4; other++) {
                if (other != place) {
                    others = others.add(four[other][i]);
                }
            }
            result[place][i] = TWO.multiply(others).subtract(four[place][i]);
        }
        return result;
    }

    private boolean trySwap(int kiss, int place) {
        BigInteger[][] result = swapped(kisses.get(kiss), place);
        if (!fits(result[place])) {
            return false;
        }
        kisses.set(kiss, result);
        return true;
    }

    private long swap(int kiss, int place) {
        return trySwap(kiss, place) ? 1 : no(-8);
    }

    private long word(int kiss, int digits, int n) {
        if (!isKiss(kiss)) {
            return no(-3);
        }
        if (n < 0) {
            return no(-4);
        }
        if (n > 15 || digits < 0 || digits >= Math.pow(4, n)) {
            return no(-7);
        }
        int rest = digits;
        for (int i = 0; i < n; i++) {
            if (!trySwap(kiss, rest % 4)) {
                return i;
            }
            rest /= 4;
        }
        return n;
    }

    /** The place where a swap is due on the way to the least, -1 at the least. */
    private static int duePlace(BigInteger[][] four) {
        int greatest = 0;
        for (int place = 1; place < 4; place++) {
            if (four[place][0].compareTo(four[greatest][0]) > 0) {
                greatest = place;
            }
        }
        return swapped(four, greatest)[greatest][0].compareTo(four[greatest][0]) < 0 ? greatest : -1;
    }

    private long least(int kiss) {
        if (!isKiss(kiss)) {
            return no(-3);
        }
        BigInteger[][] four = kisses.get(kiss);
        if (height(four).signum() <= 0) {
            return no(-7);
        }
        int swaps = 0;
        int places = 0;
        for (int place = duePlace(four); place >= 0; place = duePlace(four)) {
            four = swapped(four, place);
            if (!fits(four[place])) {
                return no(-8);
            }
            places += swaps < 15 ? place * (int) Math.pow(4, swaps) : 0;
            swaps++;
        }
        kisses.set(kiss, four);
        led = places;
        return swaps;
    }

    private static BigInteger[][] leastOf(BigInteger[][] kiss) {
        BigInteger[][] four = kiss;
        for (int place = duePlace(four); place >= 0; place = duePlace(four)) {
            four = swapped(four, place);
        }
        return four;
    }

    private boolean isHigh(int kiss) {
        return height(kisses.get(kiss)).signum() > 0;
    }

    private List<BigInteger> leastBends(int kiss) {
        return Arrays.stream(leastOf(kisses.get(kiss))).map(r -> r[0]).sorted().toList();
    }

    private long same(int kiss, int other) {
        if (!isKiss(kiss) || !isKiss(other)) {
            return no(-3);
        }
        if (!isHigh(kiss) || !isHigh(other)) {
            return no(-7);
        }
        return leastBends(kiss).equals(leastBends(other)) ? 1 : 0;
    }

    private long shut(int kiss) {
        if (!isKiss(kiss)) {
            return no(-3);
        }
        return !isHigh(kiss) ? no(-7) : leastBends(kiss).get(0).signum() < 0 ? 1 : 0;
    }

    // ---- packings

    private long packing(String call, int... v) {
        boolean tellsZero = call.equals("sum");
        if (!isKiss(v[0])) {
            return tellsZero ? zero(-3) : no(-3);
        }
        boolean isNext = call.equals("next");
        boolean isRange = isNext ? v[1] >= -1_000_000_000 && v[1] <= 299 : v[1] >= 0 && v[1] <= 300;
        boolean isWhat = !tellsZero || v[2] >= 0 && v[2] <= 4;
        if (!isHigh(v[0]) || leastBends(v[0]).get(0).signum() >= 0 || !isRange || !isWhat) {
            return tellsZero ? zero(-7) : no(-7);
        }
        Packed all = upTo(leastOf(kisses.get(v[0])), isNext ? 300 : v[1]);
        List<Long> bends = all.rounds.stream().map(r -> r[0].longValueExact()).toList();
        switch (call) {
            case "count": return bends.size();
            case "bends": return bends.stream().filter(b -> b == v[1]).count();
            case "next": return bends.stream().filter(b -> b > v[1]).min(Comparator.naturalOrder()).orElse(-1L);
            case "rests": return bends.stream().map(b -> 1L << (b % 24 + 24) % 24).reduce(0L, (x, y) -> x | y);
            default: break;
        }
        if (v[2] == 0) {
            return bends.stream().reduce(0L, Long::sum);
        }
        BigInteger[] one = all.least.get(v[2] - 1);
        return all.rounds.stream().filter(r -> times(r, one).equals(TWO.negate())).count();
    }

    /** All swaps from all kisses that come, a set of rounds: not the tree of words. */
    private static Packed upTo(BigInteger[][] least, int n) {
        BigInteger most = BigInteger.valueOf(n);
        Map<String, BigInteger[]> rounds = new HashMap<>();
        for (BigInteger[] r : least) {
            if (r[0].compareTo(most) <= 0) {
                rounds.put(Arrays.toString(r), r);
            }
        }
        Set<String> known = new HashSet<>();
        Deque<BigInteger[][]> open = new ArrayDeque<>();
        known.add(Arrays.deepToString(least));
        open.add(least);
        while (!open.isEmpty()) {
            BigInteger[][] four = open.remove();
            for (int place = 0; place < 4; place++) {
                BigInteger[][] result = swapped(four, place);
                if (result[place][0].compareTo(most) <= 0 && known.add(Arrays.deepToString(result))) {
                    rounds.put(Arrays.toString(result[place]), result[place]);
                    open.add(result);
                }
            }
        }
        return new Packed(List.of(least), new ArrayList<>(rounds.values()));
    }

    // ---- fractions

    private static Set<Integer> allFractions() {
        Set<Integer> all = new HashSet<>();
        for (int q = 1; q <= 99; q++) {
            for (int p = 0; p <= q; p++) {
                if (BigInteger.valueOf(p).gcd(BigInteger.valueOf(q)).intValue() == 1) {
                    all.add(100 * p + q);
                }
            }
        }
        return all;
    }

    private static boolean isFraction(int f) {
        return FRACTIONS.contains(f);
    }

    private static boolean areNear(int f, int g) {
        return Math.abs((f / 100) * (g % 100) - (g / 100) * (f % 100)) == 1;
    }

    private static List<Integer> rowOf(int n) {
        return ROWS.computeIfAbsent(n, order -> FRACTIONS.stream().filter(f -> f % 100 <= order)
                .sorted((f, g) -> (f / 100) * (g % 100) - (g / 100) * (f % 100)).toList());
    }

    private long between(int f, int g) {
        if (!isFraction(f) || !isFraction(g) || !areNear(f, g)) {
            return no(-7);
        }
        return f % 100 + g % 100 > 99 ? no(-8) : f + g;
    }

    private long fraction(int n, int i) {
        if (n < 1 || n > 30) {
            return no(-7);
        }
        List<Integer> row = rowOf(n);
        return i < 0 || i >= row.size() ? no(-3) : row.get(i);
    }

    private long beside(int f, int n, boolean down) {
        if (n < 1 || n > 30 || !rowOf(n).contains(f)) {
            return no(-7);
        }
        List<Integer> row = rowOf(n);
        int i = row.indexOf(f) + (down ? -1 : 1);
        return i < 0 || i >= row.size() ? -1 : row.get(i);
    }

    private long way(int f, int g, int n) {
        if (n < 1 || n > 30 || !rowOf(n).contains(f) || !rowOf(n).contains(g)) {
            return no(-7);
        }
        List<Integer> row = rowOf(n);
        way = leastWay(row, row.indexOf(f), row.indexOf(g)).stream().map(row::get).toList();
        return way.size() - 1;
    }

    /** All shortest ways from f, step by step, as lists of places in the row; the least of those that end at g. */
    private static List<Integer> leastWay(List<Integer> row, int f, int g) {
        Map<Integer, List<Integer>> best = new HashMap<>();
        best.put(f, List.of(f));
        Set<Integer> known = new HashSet<>(Set.of(f));
        while (!best.containsKey(g)) {
            Map<Integer, List<Integer>> further = new HashMap<>();
            for (List<Integer> before : best.values()) {
                int last = before.get(before.size() - 1);
                for (int i = 0; i < row.size(); i++) {
                    if (!known.contains(i) && areNear(row.get(last), row.get(i))) {
                        List<Integer> longer = new ArrayList<>(before);
                        longer.add(i);
                        further.merge(i, longer, SlowBench::lesser);
                    }
                }
            }
            known.addAll(further.keySet());
            best = further;
        }
        return best.get(g);
    }

    private static List<Integer> lesser(List<Integer> one, List<Integer> other) {
        for (int i = 0; i < one.size(); i++) {
            if (!one.get(i).equals(other.get(i))) {
                return one.get(i) < other.get(i) ? one : other;
            }
        }
        return one;
    }

    // ---- rows

    private long lay(BigInteger[][] four) {
        sheet = Arrays.stream(four).flatMap(Arrays::stream).toArray(BigInteger[]::new);
        return 16;
    }

    private long tear() {
        int was = sheet == null ? 0 : 1;
        sheet = null;
        return was;
    }

    private long copy(int i, int j, int n) {
        if (sheet == null) {
            return no(-2);
        }
        if (n < 0) {
            return no(-4);
        }
        if (i < 0 || j < 0 || i > 16 || j > 16 || n > 16 - i || n > 16 - j) {
            return no(-6);
        }
        BigInteger[] before = sheet.clone();
        for (int k = 0; k < n; k++) {
            sheet[j + k] = before[i + k];
        }
        return n;
    }

    private long give() {
        BigInteger[][] four = new BigInteger[4][];
        for (int place = 0; place < 4; place++) {
            four[place] = Arrays.copyOfRange(sheet, 4 * place, 4 * place + 4);
        }
        return keep(four);
    }
}
