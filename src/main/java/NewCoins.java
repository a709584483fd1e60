import java.util.Arrays;

/**
 * Coins of a land that changes them in one night. The words in capitals are those of the
 * document's Terms.
 *
 * <p>All that calls change is held in one {@link Land}; an image is a second Land with the same
 * content. No call makes an object: every row is made with the object and used again.
 */
public final class NewCoins {
    public static final int NONE = -1;

    private static final int OLD = 0;
    private static final int NEW = 1;
    /** Not a SYSTEM: the number by which about() is asked for the land itself. */
    private static final int THE_LAND = 2;

    private static final int DOWN = 0;
    private static final int UP = 1;
    private static final int NEAREST = 2;
    private static final int NEAREST_EVEN = 3;

    private static final int MOST_COINS = 8;
    private static final int MOST_VALUE = 1000;
    private static final int MOST_RATE = 100;
    private static final int MOST_GOODS = 14;
    private static final int MOST_GOOD_PRICE = 10000;
    private static final int MOST_SOLD = 100;
    private static final int MOST_STEP = 100;
    private static final int MOST_SUM = 2000;
    private static final int MOST_TILLS = 4;
    private static final int MOST_IN_TILL = 1000;
    private static final int MOST_SALE_PRICE = 2000;
    private static final int MOST_PAID = 50;
    private static final int MOST_EXPECTED = 20;
    private static final int IMAGES = 3;

    private static final int ABOUT_VALUES = 10;
    private static final int ABOUT_PRICES = 10;
    private static final int ABOUT_SOLD = 30;

    private final Land now = new Land();
    private final Land[] images = new Land[IMAGES];
    private final boolean[] taken = new boolean[IMAGES];
    private final ChangeMaker maker = new ChangeMaker();
    private final int[] fewestRow = new int[MOST_COINS];
    private final long[] turns = new long[MOST_GOODS];

    public NewCoins() {
        for (int k = 0; k < IMAGES; k++) {
            images[k] = new Land();
        }
    }

    public int coin(int system, int value) {
        Coinage coinage = now.coinageOf(system);
        return coinage == null ? NONE : coinage.add(value);
    }

    public boolean rate(int a, int b) {
        if (!within(1, a, MOST_RATE) || !within(1, b, MOST_RATE) || now.hasSold()) {
            return false;
        }
        now.a = a;
        now.b = b;
        return true;
    }

    public int good(int price, int sold) {
        return now.goods.add(price, sold);
    }

    public boolean sold(int good, int n) {
        if (!now.goods.isGood(good) || !within(0, n, MOST_SOLD)) {
            return false;
        }
        now.goods.times[good] = n;
        return true;
    }

    public boolean step(int step) {
        if (!within(1, step, MOST_STEP)) {
            return false;
        }
        now.step = step;
        return true;
    }

    public int price(int good, int rule) {
        return now.goods.isGood(good) && isRule(rule) ? now.newPrice(good, rule) : NONE;
    }

    public long gain(int rule) {
        long all = 0;
        if (isRule(rule)) {
            for (int good = 0; good < now.goods.count; good++) {
                all += now.gainOf(good, rule);
            }
        }
        return all;
    }

    public int fairest() {
        long all = startOfWays();
        long nearest = Math.abs(all);
        int best = 0;
        int ways = 1 << now.goods.count;
        for (int way = 1; way < ways && nearest > 0; way++) {
            int good = Integer.bitCount((way & -way) - 1);
            all += turns[good];
            if (Math.abs(all) < nearest) {
                nearest = Math.abs(all);
                best = way;
            }
        }
        return best;
    }

    public long gains(int way) {
        long all = 0;
        for (int good = 0; good < now.goods.count; good++) {
            boolean up = (way >> good & 1) == 1;
            all += now.gainOf(good, up ? UP : DOWN);
        }
        return all;
    }

    public int fewest(int system, int sum, int k) {
        Coinage coinage = now.coinageOf(system);
        if (coinage == null || !coinage.hasFewest(sum)) {
            return NONE;
        }
        if (k == NONE) {
            return coinage.least[sum];
        }
        if (!coinage.isCoin(k)) {
            return NONE;
        }
        coinage.writeFewest(sum, fewestRow);
        return fewestRow[k];
    }

    public int greedy(int system, int sum) {
        Coinage coinage = now.coinageOf(system);
        return coinage == null || !isSum(sum) ? NONE : coinage.countGreedily(sum);
    }

    public int odd(int system) {
        Coinage coinage = now.coinageOf(system);
        return coinage == null ? NONE : coinage.leastOdd();
    }

    public int till() {
        if (now.tillCount >= MOST_TILLS) {
            return NONE;
        }
        now.tillCount++;
        return now.tillCount - 1;
    }

    public int put(int till, int system, int coin, int n) {
        Till at = now.tillAt(till);
        if (at == null || !now.isCoin(system, coin)) {
            return NONE;
        }
        int[] counts = at.countsOf(system);
        long then = (long) counts[coin] + n;
        if (then < 0 || then > MOST_IN_TILL) {
            return NONE;
        }
        counts[coin] = (int) then;
        return counts[coin];
    }

    public int sale(int till, int price, int system, int coin, int n) {
        Till at = now.tillAt(till);
        if (at == null || !now.isSale(price, system, coin, n)) {
            return NONE;
        }
        int spare = now.spareParts(price, system, coin, n);
        int[] counts = at.countsOf(system);
        if (spare < 0 || counts[coin] + n > MOST_IN_TILL) {
            return NONE;
        }
        int change = wholeTimes(spare, now.b);
        // The CHANGE may be given in what was just paid, so that comes in first.
        counts[coin] += n;
        if (!maker.make(now.fresh, at.fresh, change)) {
            counts[coin] -= n;
            return NONE;
        }
        at.close(price, spare - change * now.b, maker.row);
        return change;
    }

    public int given(int till, int coin) {
        Till at = now.tillAt(till);
        return at == null || at.sales == 0 || !now.isCoin(NEW, coin) ? NONE : at.latest[coin];
    }

    public long tell(int till, int what) {
        Till at = now.tillAt(till);
        if (at == null) {
            return -1;
        }
        switch (what) {
            case 0:
                return at.sales;
            case 1:
                return at.scraps;
            case 2:
                return now.partsOf(OLD, at.old) + now.partsOf(NEW, at.fresh);
            case 3:
                return now.partsOf(OLD, at.old);
            case 4:
                return at.takings * now.b;
            case 5:
                return at.expected.count;
            default:
                return -1;
        }
    }

    public int has(int till, int system, int coin) {
        Till at = now.tillAt(till);
        return at == null || !now.isCoin(system, coin) ? NONE : at.countsOf(system)[coin];
    }

    public long draw(int till) {
        Till at = now.tillAt(till);
        if (at == null) {
            return -1;
        }
        long parts = now.partsOf(OLD, at.old);
        for (int coin = 0; coin < MOST_COINS; coin++) {
            now.drawnIn[coin] += at.old[coin];
            at.old[coin] = 0;
        }
        return parts;
    }

    public int drawn(int coin) {
        return now.isCoin(OLD, coin) ? now.drawnIn[coin] : NONE;
    }

    public int expect(int till, int price, int system, int coin, int n) {
        Till at = now.tillAt(till);
        return at == null || !now.isSale(price, system, coin, n)
                ? NONE
                : at.expected.add(price, system, coin, n);
    }

    public boolean forget(int till) {
        Till at = now.tillAt(till);
        if (at == null) {
            return false;
        }
        at.expected.count = 0;
        return true;
    }

    public int wanted(int till, int coin) {
        Till at = now.tillAt(till);
        return at == null || !now.isCoin(NEW, coin) ? NONE : mostLacking(at.expected, coin);
    }

    public int about(int system, int what) {
        if (system == THE_LAND) {
            return now.detail(what);
        }
        Coinage coinage = now.coinageOf(system);
        return coinage == null ? NONE : coinage.detail(what);
    }

    public boolean image(int k) {
        if (!within(0, k, IMAGES - 1)) {
            return false;
        }
        images[k].copyFrom(now);
        taken[k] = true;
        return true;
    }

    public boolean again(int k) {
        if (!within(0, k, IMAGES - 1) || !taken[k]) {
            return false;
        }
        now.copyFrom(images[k]);
        return true;
    }

    private static boolean within(int least, int x, int most) {
        return least <= x && x <= most;
    }

    private static boolean isRule(int rule) {
        return within(DOWN, rule, NEAREST_EVEN);
    }

    private static boolean isSum(int sum) {
        return within(0, sum, MOST_SUM);
    }

    /** The one place that divides, so that each divisor is looked at; x is not below 0. */
    private static int wholeTimes(int x, int divisor) {
        return divisor < 1 ? 0 : x / divisor;
    }

    /**
     * GAINS of the way without bits. Writes, for each GOOD, what all GAINS grow by when counting
     * from one way to the next sets its bit: that also clears all bits below, so that a way costs
     * one addition and not one for each GOOD.
     */
    private long startOfWays() {
        long all = 0;
        long below = 0;
        for (int good = 0; good < now.goods.count; good++) {
            long down = now.gainOf(good, DOWN);
            long more = now.gainOf(good, UP) - down;
            turns[good] = more - below;
            below += more;
            all += down;
        }
        return all;
    }

    /** The deepest that a TILL with none of a COIN of NEW at first would sink below none. */
    private int mostLacking(Expected sales, int coin) {
        int balance = 0;
        int lacking = 0;
        for (int i = 0; i < sales.count; i++) {
            int n = sales.numbers[i];
            int spare = now.spareParts(sales.prices[i], sales.systems[i], sales.coins[i], n);
            int change = spare < 0 ? NONE : wholeTimes(spare, now.b);
            if (!now.fresh.hasFewest(change)) {
                return NONE;
            }
            if (sales.systems[i] == NEW && sales.coins[i] == coin) {
                balance += n;
            }
            now.fresh.writeFewest(change, fewestRow);
            balance -= fewestRow[coin];
            lacking = Math.max(lacking, -balance);
        }
        return lacking;
    }

    /** The COINS of one SYSTEM. */
    private static final class Coinage {
        int count = 0;
        final int[] values = new int[MOST_COINS];
        /** The COINS' numbers, that of the greatest value first. */
        final int[] falling = new int[MOST_COINS];
        /** How many COINS FEWEST has for each SUM: kept, as COINS come seldom and sums often. */
        final int[] least = new int[MOST_SUM + 1];

        Coinage() {
            Arrays.fill(least, NONE);
            least[0] = 0;
        }

        void copyFrom(Coinage other) {
            count = other.count;
            System.arraycopy(other.values, 0, values, 0, MOST_COINS);
            System.arraycopy(other.falling, 0, falling, 0, MOST_COINS);
            System.arraycopy(other.least, 0, least, 0, MOST_SUM + 1);
        }

        boolean isCoin(int coin) {
            return within(0, coin, count - 1);
        }

        int add(int value) {
            if (count >= MOST_COINS || !within(1, value, MOST_VALUE) || isValue(value)) {
                return NONE;
            }
            values[count] = value;
            rank(count);
            improve(value);
            count++;
            return count - 1;
        }

        private boolean isValue(int value) {
            for (int coin = 0; coin < count; coin++) {
                if (values[coin] == value) {
                    return true;
                }
            }
            return false;
        }

        private void rank(int coin) {
            int place = coin;
            while (place > 0 && values[falling[place - 1]] < values[coin]) {
                falling[place] = falling[place - 1];
                place--;
            }
            falling[place] = coin;
        }

        private void improve(int value) {
            for (int sum = value; sum <= MOST_SUM; sum++) {
                int before = least[sum - value];
                if (before != NONE && (least[sum] == NONE || before + 1 < least[sum])) {
                    least[sum] = before + 1;
                }
            }
        }

        boolean hasFewest(int sum) {
            return isSum(sum) && least[sum] != NONE;
        }

        /**
         * Writes how many of each COIN FEWEST has, for a SUM that has it. A COIN is in some row
         * with the fewest COINS just if what is left without it needs one COIN less.
         */
        void writeFewest(int sum, int[] row) {
            int left = sum;
            for (int i = 0; i < count; i++) {
                int value = values[falling[i]];
                int most = wholeTimes(left, value);
                int n = 0;
                while (n < most && least[left - value] == least[left] - 1) {
                    left -= value;
                    n++;
                }
                row[falling[i]] = n;
            }
        }

        int countGreedily(int sum) {
            int left = sum;
            int all = 0;
            for (int i = 0; i < count && left > 0; i++) {
                int value = values[falling[i]];
                int n = wholeTimes(left, value);
                left -= n * value;
                all += n;
            }
            return left == 0 ? all : NONE;
        }

        int leastOdd() {
            for (int sum = 0; sum <= MOST_SUM; sum++) {
                if (least[sum] != NONE && countGreedily(sum) != least[sum]) {
                    return sum;
                }
            }
            return NONE;
        }

        int detail(int what) {
            if (what == 0) {
                return count;
            }
            return isCoin(what - ABOUT_VALUES) ? values[what - ABOUT_VALUES] : NONE;
        }
    }

    /** The GOODS, with their PRICES in UNITS of OLD. */
    private static final class Goods {
        int count = 0;
        final int[] prices = new int[MOST_GOODS];
        final int[] times = new int[MOST_GOODS];

        void copyFrom(Goods other) {
            count = other.count;
            System.arraycopy(other.prices, 0, prices, 0, MOST_GOODS);
            System.arraycopy(other.times, 0, times, 0, MOST_GOODS);
        }

        boolean isGood(int good) {
            return within(0, good, count - 1);
        }

        int add(int price, int n) {
            if (count >= MOST_GOODS
                    || !within(1, price, MOST_GOOD_PRICE)
                    || !within(0, n, MOST_SOLD)) {
                return NONE;
            }
            prices[count] = price;
            times[count] = n;
            count++;
            return count - 1;
        }
    }

    /** The EXPECTED SALES of a TILL, in their row. */
    private static final class Expected {
        int count = 0;
        final int[] prices = new int[MOST_EXPECTED];
        final int[] systems = new int[MOST_EXPECTED];
        final int[] coins = new int[MOST_EXPECTED];
        final int[] numbers = new int[MOST_EXPECTED];

        void copyFrom(Expected other) {
            count = other.count;
            System.arraycopy(other.prices, 0, prices, 0, MOST_EXPECTED);
            System.arraycopy(other.systems, 0, systems, 0, MOST_EXPECTED);
            System.arraycopy(other.coins, 0, coins, 0, MOST_EXPECTED);
            System.arraycopy(other.numbers, 0, numbers, 0, MOST_EXPECTED);
        }

        int add(int price, int system, int coin, int n) {
            if (count >= MOST_EXPECTED) {
                return NONE;
            }
            prices[count] = price;
            systems[count] = system;
            coins[count] = coin;
            numbers[count] = n;
            count++;
            return count;
        }
    }

    /** A TILL; of COINS that there are not, it has 0. */
    private static final class Till {
        final int[] old = new int[MOST_COINS];
        final int[] fresh = new int[MOST_COINS];
        /** What the latest SALE gave of each COIN of NEW. */
        final int[] latest = new int[MOST_COINS];
        final Expected expected = new Expected();
        int sales = 0;
        long scraps = 0;
        /** All NEW PRICES that were paid, in UNITS of NEW. */
        long takings = 0;

        void copyFrom(Till other) {
            System.arraycopy(other.old, 0, old, 0, MOST_COINS);
            System.arraycopy(other.fresh, 0, fresh, 0, MOST_COINS);
            System.arraycopy(other.latest, 0, latest, 0, MOST_COINS);
            expected.copyFrom(other.expected);
            sales = other.sales;
            scraps = other.scraps;
            takings = other.takings;
        }

        int[] countsOf(int system) {
            return system == OLD ? old : fresh;
        }

        void close(int price, int cutOff, int[] change) {
            for (int coin = 0; coin < MOST_COINS; coin++) {
                fresh[coin] -= change[coin];
                latest[coin] = change[coin];
            }
            sales++;
            scraps += cutOff;
            takings += price;
        }
    }

    /** All that is told, but for the images. */
    private static final class Land {
        final Coinage old = new Coinage();
        final Coinage fresh = new Coinage();
        final Goods goods = new Goods();
        /** All the TILLS that there can be; those from tillCount on have nothing yet. */
        final Till[] tills = new Till[MOST_TILLS];
        /** How many of each COIN of OLD were drawn in. */
        final int[] drawnIn = new int[MOST_COINS];
        int tillCount = 0;
        int a = 1;
        int b = 1;
        int step = 1;

        Land() {
            for (int i = 0; i < MOST_TILLS; i++) {
                tills[i] = new Till();
            }
        }

        void copyFrom(Land other) {
            old.copyFrom(other.old);
            fresh.copyFrom(other.fresh);
            goods.copyFrom(other.goods);
            for (int i = 0; i < MOST_TILLS; i++) {
                tills[i].copyFrom(other.tills[i]);
            }
            System.arraycopy(other.drawnIn, 0, drawnIn, 0, MOST_COINS);
            tillCount = other.tillCount;
            a = other.a;
            b = other.b;
            step = other.step;
        }

        /** The COINS of a SYSTEM, null if there is none such. */
        Coinage coinageOf(int system) {
            if (system == OLD) {
                return old;
            }
            return system == NEW ? fresh : null;
        }

        /** A TILL, null if there is none such. */
        Till tillAt(int number) {
            return within(0, number, tillCount - 1) ? tills[number] : null;
        }

        boolean isCoin(int system, int coin) {
            Coinage coinage = coinageOf(system);
            return coinage != null && coinage.isCoin(coin);
        }

        boolean isSale(int price, int system, int coin, int n) {
            return within(1, price, MOST_SALE_PRICE)
                    && within(1, n, MOST_PAID)
                    && isCoin(system, coin);
        }

        boolean hasSold() {
            for (int i = 0; i < tillCount; i++) {
                if (tills[i].sales > 0) {
                    return true;
                }
            }
            return false;
        }

        int unitParts(int system) {
            return system == OLD ? a : b;
        }

        /** PARTS of n of a COIN less those of a NEW PRICE: below 0 if that is more. */
        int spareParts(int price, int system, int coin, int n) {
            Coinage coinage = coinageOf(system);
            if (coinage == null || !coinage.isCoin(coin)) {
                return NONE;
            }
            return n * coinage.values[coin] * unitParts(system) - price * b;
        }

        long partsOf(int system, int[] counts) {
            Coinage coinage = coinageOf(system);
            long units = 0;
            if (coinage != null) {
                for (int coin = 0; coin < coinage.count; coin++) {
                    units += (long) counts[coin] * coinage.values[coin];
                }
            }
            return units * unitParts(system);
        }

        int newPrice(int good, int rule) {
            int parts = goods.prices[good] * a;
            int stepParts = step * b;
            int steps = wholeTimes(parts, stepParts);
            int over = parts - steps * stepParts;
            return (roundsUp(rule, steps, over, stepParts) ? steps + 1 : steps) * step;
        }

        private static boolean roundsUp(int rule, int steps, int over, int stepParts) {
            switch (rule) {
                case UP:
                    return over > 0;
                case NEAREST:
                    return 2 * over >= stepParts;
                case NEAREST_EVEN:
                    return 2 * over > stepParts || 2 * over == stepParts && (steps & 1) == 1;
                default:
                    return false;
            }
        }

        long gainOf(int good, int rule) {
            long more = (long) newPrice(good, rule) * b - (long) goods.prices[good] * a;
            return more * goods.times[good];
        }

        int detail(int what) {
            switch (what) {
                case 0:
                    return goods.count;
                case 1:
                    return tillCount;
                case 2:
                    return a;
                case 3:
                    return b;
                case 4:
                    return step;
                default:
                    return goodDetail(what);
            }
        }

        private int goodDetail(int what) {
            if (goods.isGood(what - ABOUT_PRICES)) {
                return goods.prices[what - ABOUT_PRICES];
            }
            return goods.isGood(what - ABOUT_SOLD) ? goods.times[what - ABOUT_SOLD] : NONE;
        }
    }

    /** Finds CHANGE in COINS of which there are only so many. */
    private static final class ChangeMaker {
        /** The CHANGE that was made last: how many of each COIN. */
        final int[] row = new int[MOST_COINS];
        /** Row i: the fewest COINS for each SUM in the i COINS of the least values alone. */
        private final int[][] least = new int[MOST_COINS + 1][MOST_SUM + 1];
        private final int[] places = new int[MOST_SUM + 1];
        private final int[] costs = new int[MOST_SUM + 1];

        /** Whether a sum can be made; if so, row has the best way. */
        boolean make(Coinage coinage, int[] limits, int sum) {
            if (!isSum(sum)) {
                return false;
            }
            Arrays.fill(least[0], NONE);
            least[0][0] = 0;
            int count = coinage.count;
            for (int i = 0; i < count; i++) {
                int coin = coinage.falling[count - 1 - i];
                allow(i, coinage.values[coin], limits[coin], sum);
            }
            if (least[count][sum] == NONE) {
                return false;
            }
            writeRow(coinage, limits, sum);
            return true;
        }

        /** Makes row i + 1 of row i, by one COIN more. */
        private void allow(int i, int value, int limit, int most) {
            for (int first = 0; first < value && first <= most; first++) {
                slide(least[i], least[i + 1], first, value, limit, most);
            }
        }

        /**
         * Does so for the sums first, first + value and so on. The queue keeps those of the latest
         * limit + 1 places that may yet be the best to come from, the best one ahead, so that a
         * sum need not try each number of COINS.
         */
        private void slide(int[] from, int[] to, int first, int value, int limit, int most) {
            int head = 0;
            int tail = 0;
            int last = wholeTimes(most - first, value);
            for (int place = 0; place <= last; place++) {
                int sum = first + place * value;
                if (from[sum] != NONE) {
                    int cost = from[sum] - place;
                    while (tail > head && costs[tail - 1] >= cost) {
                        tail--;
                    }
                    places[tail] = place;
                    costs[tail] = cost;
                    tail++;
                }
                if (head < tail && places[head] < place - limit) {
                    head++;
                }
                to[sum] = head < tail ? costs[head] + place : NONE;
            }
        }

        private void writeRow(Coinage coinage, int[] limits, int sum) {
            Arrays.fill(row, 0);
            int left = sum;
            for (int i = coinage.count; i > 0; i--) {
                int coin = coinage.falling[coinage.count - i];
                int value = coinage.values[coin];
                int n = Math.min(limits[coin], wholeTimes(left, value));
                while (n > 0 && !leadsOn(i, left, left - n * value, n)) {
                    n--;
                }
                row[coin] = n;
                left -= n * value;
            }
        }

        private boolean leadsOn(int i, int left, int rest, int n) {
            return least[i - 1][rest] != NONE && least[i - 1][rest] + n == least[i][left];
        }
    }
}
