import java.util.ArrayList;
import java.util.Comparator;
import java.util.HashMap;
import java.util.List;
import java.util.Map;

/**
 * The document's sentences once more, in the slowest and plainest way, with the whole Java library:
 * what NewCoins answers is held against this in long runs.
 */
final class PlainCoins {
    private static final int NONE = -1;

    private record Good(int price, int sold) {
        Good soldTimes(int n) {
            return new Good(price, n);
        }
    }

    private record Sale(int price, int system, int coin, int n) {}

    private static final class Till {
        Map<Integer, Integer> old = new HashMap<>();
        Map<Integer, Integer> fresh = new HashMap<>();
        Map<Integer, Integer> given = null;
        List<Sale> sales = new ArrayList<>();
        List<Sale> expected = new ArrayList<>();
        long scraps = 0;

        Till copy() {
            Till t = new Till();
            t.old = new HashMap<>(old);
            t.fresh = new HashMap<>(fresh);
            t.given = given == null ? null : new HashMap<>(given);
            t.sales = new ArrayList<>(sales);
            t.expected = new ArrayList<>(expected);
            t.scraps = scraps;
            return t;
        }

        Map<Integer, Integer> of(int system) {
            return system == 0 ? old : fresh;
        }
    }

    private static final class State {
        List<Integer> old = new ArrayList<>();
        List<Integer> fresh = new ArrayList<>();
        List<Good> goods = new ArrayList<>();
        List<Till> tills = new ArrayList<>();
        Map<Integer, Integer> drawn = new HashMap<>();
        int a = 1;
        int b = 1;
        int step = 1;

        State copy() {
            State s = new State();
            s.old = new ArrayList<>(old);
            s.fresh = new ArrayList<>(fresh);
            s.goods = new ArrayList<>(goods);
            for (Till t : tills) {
                s.tills.add(t.copy());
            }
            s.drawn = new HashMap<>(drawn);
            s.a = a;
            s.b = b;
            s.step = step;
            return s;
        }
    }

    private State s = new State();
    private final Map<Integer, State> images = new HashMap<>();

    private List<Integer> values(int system) {
        return system == 0 ? s.old : s.fresh;
    }

    private static boolean isSystem(int system) {
        return system == 0 || system == 1;
    }

    private static boolean in(List<?> list, int i) {
        return i >= 0 && i < list.size();
    }

    private boolean isCoin(int system, int coin) {
        return isSystem(system) && in(values(system), coin);
    }

    int coin(int system, int value) {
        if (!isSystem(system) || value < 1 || value > 1000) {
            return NONE;
        }
        List<Integer> values = values(system);
        if (values.size() == 8 || values.contains(value)) {
            return NONE;
        }
        values.add(value);
        return values.size() - 1;
    }

    boolean rate(int a, int b) {
        boolean sold = s.tills.stream().anyMatch(t -> !t.sales.isEmpty());
        if (a < 1 || a > 100 || b < 1 || b > 100 || sold) {
            return false;
        }
        s.a = a;
        s.b = b;
        return true;
    }

    int good(int price, int sold) {
        if (s.goods.size() == 14 || price < 1 || price > 10000 || sold < 0 || sold > 100) {
            return NONE;
        }
        s.goods.add(new Good(price, sold));
        return s.goods.size() - 1;
    }

    boolean sold(int good, int n) {
        if (!in(s.goods, good) || n < 0 || n > 100) {
            return false;
        }
        s.goods.set(good, s.goods.get(good).soldTimes(n));
        return true;
    }

    boolean step(int step) {
        if (step < 1 || step > 100) {
            return false;
        }
        s.step = step;
        return true;
    }

    int price(int good, int rule) {
        if (!in(s.goods, good) || rule < 0 || rule > 3) {
            return NONE;
        }
        long parts = (long) s.goods.get(good).price() * s.a;
        long low = parts / s.b;
        while (low % s.step != 0) {
            low--;
        }
        long high = low * s.b == parts ? low : low + s.step;
        long toLow = parts - low * s.b;
        long toHigh = high * s.b - parts;
        boolean up;
        if (rule < 2) {
            up = rule == 1;
        } else if (toLow != toHigh) {
            up = toHigh < toLow;
        } else {
            up = rule == 2 || high % (2L * s.step) == 0;
        }
        return (int) (up ? high : low);
    }

    long gain(int rule) {
        if (rule < 0 || rule > 3) {
            return 0;
        }
        long all = 0;
        for (int g = 0; g < s.goods.size(); g++) {
            all += gainAt(g, price(g, rule));
        }
        return all;
    }

    private long gainAt(int good, long price) {
        Good g = s.goods.get(good);
        return (price * s.b - (long) g.price() * s.a) * g.sold();
    }

    long gains(int way) {
        long all = 0;
        for (int g = 0; g < s.goods.size(); g++) {
            all += gainAt(g, price(g, (way & 1 << g) != 0 ? 1 : 0));
        }
        return all;
    }

    int fairest() {
        int best = 0;
        long[] down = new long[s.goods.size()];
        long[] up = new long[s.goods.size()];
        for (int g = 0; g < down.length; g++) {
            down[g] = gainAt(g, price(g, 0));
            up[g] = gainAt(g, price(g, 1));
        }
        long nearest = Long.MAX_VALUE;
        for (int way = 0; way < 1 << down.length; way++) {
            long all = 0;
            for (int g = 0; g < down.length; g++) {
                all += (way & 1 << g) != 0 ? up[g] : down[g];
            }
            if (Math.abs(all) < nearest) {
                nearest = Math.abs(all);
                best = way;
            }
        }
        return best;
    }

    /** The best row for each sum up to one, by number of COIN; null where there is none. */
    private static int[][] bestRows(List<Integer> values, Map<Integer, Integer> limits, int sum) {
        List<Integer> rising = new ArrayList<>();
        for (int i = 0; i < values.size(); i++) {
            rising.add(i);
        }
        rising.sort(Comparator.comparing(values::get));
        int[][] rows = new int[sum + 1][];
        int[] sizes = new int[sum + 1];
        rows[0] = new int[values.size()];
        for (int coin : rising) {
            int value = values.get(coin);
            int limit = limits == null ? sum : limits.getOrDefault(coin, 0);
            int[][] next = new int[sum + 1][];
            int[] nextSizes = new int[sum + 1];
            for (int to = 0; to <= sum; to++) {
                int bestN = NONE;
                int bestSize = Integer.MAX_VALUE;
                // More of this COIN, which is the greatest so far, wins a tie.
                for (int n = 0; n <= limit && n * value <= to; n++) {
                    int from = to - n * value;
                    if (rows[from] != null && sizes[from] + n <= bestSize) {
                        bestSize = sizes[from] + n;
                        bestN = n;
                    }
                }
                if (bestN != NONE) {
                    next[to] = rows[to - bestN * value].clone();
                    next[to][coin] = bestN;
                    nextSizes[to] = bestSize;
                }
            }
            rows = next;
            sizes = nextSizes;
        }
        return rows;
    }

    private static final Map<List<Integer>, int[][]> KNOWN = new HashMap<>();

    private int[] fewestRow(int system, int sum) {
        if (sum < 0 || sum > 2000) {
            return null;
        }
        List<Integer> values = List.copyOf(values(system));
        if (KNOWN.size() > 200) {
            KNOWN.clear();
        }
        return KNOWN.computeIfAbsent(values, v -> bestRows(v, null, 2000))[sum];
    }

    private static int size(int[] row) {
        int size = 0;
        for (int n : row) {
            size += n;
        }
        return size;
    }

    int fewest(int system, int sum, int k) {
        if (!isSystem(system)) {
            return NONE;
        }
        int[] row = fewestRow(system, sum);
        if (row == null || k != NONE && !in(values(system), k)) {
            return NONE;
        }
        return k == NONE ? size(row) : row[k];
    }

    int greedy(int system, int sum) {
        if (!isSystem(system) || sum < 0 || sum > 2000) {
            return NONE;
        }
        int left = sum;
        int taken = 0;
        while (left > 0) {
            int most = left;
            int value = values(system).stream().filter(v -> v <= most).max(Integer::compare).orElse(0);
            if (value == 0) {
                return NONE;
            }
            left -= value;
            taken++;
        }
        return taken;
    }

    int odd(int system) {
        if (!isSystem(system)) {
            return NONE;
        }
        for (int sum = 0; sum <= 2000; sum++) {
            int[] row = fewestRow(system, sum);
            if (row != null) {
                int greedy = greedy(system, sum);
                if (greedy == NONE || greedy > size(row)) {
                    return sum;
                }
            }
        }
        return NONE;
    }

    int till() {
        if (s.tills.size() == 4) {
            return NONE;
        }
        s.tills.add(new Till());
        return s.tills.size() - 1;
    }

    int put(int till, int system, int coin, int n) {
        if (!in(s.tills, till) || !isCoin(system, coin)) {
            return NONE;
        }
        Map<Integer, Integer> counts = s.tills.get(till).of(system);
        long then = counts.getOrDefault(coin, 0) + (long) n;
        if (then < 0 || then > 1000) {
            return NONE;
        }
        counts.put(coin, (int) then);
        return (int) then;
    }

    private boolean isSale(int till, Sale sale) {
        return in(s.tills, till) && isCoin(sale.system(), sale.coin())
                && sale.price() >= 1 && sale.price() <= 2000 && sale.n() >= 1 && sale.n() <= 50;
    }

    private long spare(Sale sale) {
        long unit = sale.system() == 0 ? s.a : s.b;
        long paid = values(sale.system()).get(sale.coin()) * unit * sale.n();
        return paid - (long) sale.price() * s.b;
    }

    int sale(int till, int price, int system, int coin, int n) {
        Sale sale = new Sale(price, system, coin, n);
        if (!isSale(till, sale)) {
            return NONE;
        }
        long spare = spare(sale);
        Till then = s.tills.get(till).copy();
        then.of(system).merge(coin, n, Integer::sum);
        if (spare < 0 || spare / s.b > 2000 || then.of(system).get(coin) > 1000) {
            return NONE;
        }
        int change = (int) (spare / s.b);
        int[] row = bestRows(s.fresh, then.fresh, change)[change];
        if (row == null) {
            return NONE;
        }
        then.given = new HashMap<>();
        for (int i = 0; i < row.length; i++) {
            then.given.put(i, row[i]);
            then.fresh.merge(i, -row[i], Integer::sum);
        }
        then.sales.add(sale);
        then.scraps += spare % s.b;
        s.tills.set(till, then);
        return change;
    }

    int given(int till, int coin) {
        if (!in(s.tills, till) || !isCoin(1, coin) || s.tills.get(till).given == null) {
            return NONE;
        }
        return s.tills.get(till).given.getOrDefault(coin, 0);
    }

    private long parts(int till, int system) {
        long all = 0;
        for (int i = 0; i < values(system).size(); i++) {
            int n = s.tills.get(till).of(system).getOrDefault(i, 0);
            all += (long) n * values(system).get(i) * (system == 0 ? s.a : s.b);
        }
        return all;
    }

    long tell(int till, int what) {
        if (!in(s.tills, till)) {
            return -1;
        }
        Till t = s.tills.get(till);
        return switch (what) {
            case 0 -> t.sales.size();
            case 1 -> t.scraps;
            case 2 -> parts(till, 0) + parts(till, 1);
            case 3 -> parts(till, 0);
            case 4 -> t.sales.stream().mapToLong(x -> (long) x.price() * s.b).sum();
            case 5 -> t.expected.size();
            default -> -1;
        };
    }

    int has(int till, int system, int coin) {
        if (!in(s.tills, till) || !isCoin(system, coin)) {
            return NONE;
        }
        return s.tills.get(till).of(system).getOrDefault(coin, 0);
    }

    long draw(int till) {
        if (!in(s.tills, till)) {
            return -1;
        }
        long parts = parts(till, 0);
        s.tills.get(till).old.forEach((coin, n) -> s.drawn.merge(coin, n, Integer::sum));
        s.tills.get(till).old.clear();
        return parts;
    }

    int drawn(int coin) {
        return isCoin(0, coin) ? s.drawn.getOrDefault(coin, 0) : NONE;
    }

    int expect(int till, int price, int system, int coin, int n) {
        Sale sale = new Sale(price, system, coin, n);
        if (!isSale(till, sale) || s.tills.get(till).expected.size() == 20) {
            return NONE;
        }
        s.tills.get(till).expected.add(sale);
        return s.tills.get(till).expected.size();
    }

    boolean forget(int till) {
        if (!in(s.tills, till)) {
            return false;
        }
        s.tills.get(till).expected.clear();
        return true;
    }

    int wanted(int till, int coin) {
        if (!in(s.tills, till) || !isCoin(1, coin)) {
            return NONE;
        }
        // The least number at first by which no CHANGE lacks a COIN, found by trying.
        List<int[]> moves = new ArrayList<>();
        for (Sale sale : s.tills.get(till).expected) {
            long spare = spare(sale);
            int[] row = spare < 0 || spare / s.b > 2000 ? null : fewestRow(1, (int) (spare / s.b));
            if (row == null) {
                return NONE;
            }
            moves.add(new int[] {sale.system() == 1 && sale.coin() == coin ? sale.n() : 0, row[coin]});
        }
        int first = 0;
        while (!suffices(first, moves)) {
            first++;
        }
        return first;
    }

    private static boolean suffices(int first, List<int[]> moves) {
        int has = first;
        for (int[] move : moves) {
            has += move[0];
            if (has < move[1]) {
                return false;
            }
            has -= move[1];
        }
        return true;
    }

    int about(int system, int what) {
        if (isSystem(system)) {
            if (what == 0) {
                return values(system).size();
            }
            return what >= 10 && what <= 17 && what - 10 < values(system).size()
                    ? values(system).get(what - 10) : NONE;
        }
        if (system != 2) {
            return NONE;
        }
        if (what >= 10 && what <= 23 && what - 10 < s.goods.size()) {
            return s.goods.get(what - 10).price();
        }
        if (what >= 30 && what <= 43 && what - 30 < s.goods.size()) {
            return s.goods.get(what - 30).sold();
        }
        return switch (what) {
            case 0 -> s.goods.size();
            case 1 -> s.tills.size();
            case 2 -> s.a;
            case 3 -> s.b;
            case 4 -> s.step;
            default -> NONE;
        };
    }

    boolean image(int k) {
        if (k < 0 || k > 2) {
            return false;
        }
        images.put(k, s.copy());
        return true;
    }

    boolean again(int k) {
        if (!images.containsKey(k)) {
            return false;
        }
        s = images.get(k).copy();
        return true;
    }
}
