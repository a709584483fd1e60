import java.util.Random;

/** All promises: runs of 512 calls by a fixed seed, each answer held against PlainCoins. */
public final class LongRunsTest {
    private static final int RUNS = 260;
    private static final int CALLS = 512;
    private static final int NONE = NewCoins.NONE;
    private static final int[] FAR = {
        Integer.MIN_VALUE, Integer.MAX_VALUE, -2, 8, 14, 1001, 2001, 10001
    };
    private static final Due DUE = new Due();

    private final Random random;
    private final NewCoins x = new NewCoins();
    private final PlainCoins y = new PlainCoins();
    private final int mostValue;
    private final int putSize;
    private final int odds;

    private LongRunsTest(int seed) {
        random = new Random(seed);
        mostValue = new int[] {12, 40, 300, 1000}[seed % 4];
        putSize = new int[] {4, 30, 1000}[seed % 3];
        // Some runs give wrong numbers often, others hardly ever, so that the state grows rich.
        odds = new int[] {8, 40, 400}[seed / 4 % 3];
    }

    public static void main(String[] args) {
        for (int seed = 0; seed < RUNS && !DUE.anyWrong(); seed++) {
            LongRunsTest run = new LongRunsTest(seed);
            run.prepare();
            for (int call = run.made; call < CALLS && !DUE.anyWrong(); call++) {
                run.callAny();
            }
        }
        DUE.end();
    }

    private int made = 0;

    private void prepare() {
        if (random.nextInt(5) == 0) {
            return;
        }
        int coins = 3 + random.nextInt(6);
        for (int i = 0; i < coins; i++) {
            coin(1, i == 0 && random.nextInt(3) > 0 ? 1 : 1 + random.nextInt(mostValue));
            coin(0, 1 + random.nextInt(mostValue));
        }
        due("till", y.till(), x.till());
        int a = 1 + random.nextInt(20);
        int b = 1 + random.nextInt(20);
        due("rate " + a + " " + b, y.rate(a, b) ? 1 : 0, x.rate(a, b) ? 1 : 0);
        for (int i = 0; i < coins; i++) {
            put(0, 1, i, random.nextInt(putSize + 1));
        }
    }

    private void due(String call, long want, long got) {
        made++;
        DUE.is(call, want, got);
    }

    /** A number from least to most; seldom their neighbours, or one far off. */
    private int number(int least, int most) {
        if (random.nextInt(odds) == 0) {
            return switch (random.nextInt(3)) {
                case 0 -> least - 1;
                case 1 -> most + 1;
                default -> FAR[random.nextInt(FAR.length)];
            };
        }
        if (random.nextInt(20) == 0) {
            return random.nextBoolean() ? least : most;
        }
        return least + random.nextInt(most - least + 1);
    }

    private int oneOf(int there) {
        return number(0, Math.max(0, there - 1));
    }

    private int aTill() {
        return oneOf(y.about(2, 1));
    }

    private int aCoin(int system) {
        return oneOf(y.about(system, 0));
    }

    private int aSum() {
        return random.nextBoolean() ? number(0, 60) : number(0, 2000);
    }

    private void coin(int system, int value) {
        due("coin " + system + " " + value, y.coin(system, value), x.coin(system, value));
    }

    private void put(int till, int system, int coin, int n) {
        due("put " + till + " " + system + " " + coin + " " + n,
                y.put(till, system, coin, n), x.put(till, system, coin, n));
    }

    private void callAny() {
        int kind = random.nextInt(100);
        if (kind < 22) {
            callOfGoods(kind);
        } else if (kind < 37) {
            callOfSums(kind - 22);
        } else if (kind < 92) {
            callOfTills(kind - 37);
        } else {
            callOfAll(kind - 92);
        }
    }

    private void callOfGoods(int kind) {
        int a = number(1, 100);
        int b = number(1, 100);
        int good = oneOf(y.about(2, 0));
        int rule = number(0, 3);
        int way = random.nextInt(4) == 0 ? random.nextInt() : random.nextInt(1 << 14);
        switch (kind) {
            case 0 -> coin(number(0, 1), number(1, 1000));
            case 1 -> coin(number(0, 1), number(1, mostValue));
            case 2 -> due("rate " + a + " " + b, y.rate(a, b) ? 1 : 0, x.rate(a, b) ? 1 : 0);
            case 3, 4 -> due("step " + a, y.step(a) ? 1 : 0, x.step(a) ? 1 : 0);
            case 5, 6 -> {
                int price = number(1, 10000);
                int n = number(0, 100);
                due("good " + price + " " + n, y.good(price, n), x.good(price, n));
            }
            case 7 -> {
                int n = number(0, 100);
                due("sold " + good + " " + n, y.sold(good, n) ? 1 : 0, x.sold(good, n) ? 1 : 0);
            }
            case 8 -> due("fairest", y.fairest(), x.fairest());
            case 9, 10, 11 -> due("gain " + rule, y.gain(rule), x.gain(rule));
            case 12, 13, 14 -> due("gains " + way, y.gains(way), x.gains(way));
            default -> due("price " + good + " " + rule, y.price(good, rule), x.price(good, rule));
        }
    }

    private void callOfSums(int kind) {
        int system = number(0, 1);
        int sum = aSum();
        int k = random.nextInt(4) == 0 ? NONE : aCoin(system);
        if (kind < 9) {
            due("fewest " + system + " " + sum + " " + k,
                    y.fewest(system, sum, k), x.fewest(system, sum, k));
        } else if (kind < 14) {
            due("greedy " + system + " " + sum, y.greedy(system, sum), x.greedy(system, sum));
        } else {
            due("odd " + system, y.odd(system), x.odd(system));
        }
    }

    private void callOfTills(int kind) {
        int till = aTill();
        int system = number(0, 1);
        int coin = aCoin(system);
        int n = random.nextInt(4) == 0 ? number(1, 50) : number(1, 6);
        int price = random.nextInt(4) == 0 ? number(1, 2000) : number(1, 1 + mostValue);
        String sale = till + " " + price + " " + system + " " + coin + " " + n;
        if (kind < 1) {
            due("till", y.till(), x.till());
        } else if (kind < 7) {
            put(till, system, coin, number(-putSize / 2, putSize));
        } else if (kind < 22) {
            due("sale " + sale,
                    y.sale(till, price, system, coin, n), x.sale(till, price, system, coin, n));
        } else if (kind < 28) {
            due("given " + till + " " + coin, y.given(till, coin), x.given(till, coin));
        } else if (kind < 35) {
            int what = number(0, 5);
            due("tell " + till + " " + what, y.tell(till, what), x.tell(till, what));
        } else if (kind < 41) {
            due("has " + till + " " + system + " " + coin,
                    y.has(till, system, coin), x.has(till, system, coin));
        } else if (kind < 42) {
            due("draw " + till, y.draw(till), x.draw(till));
        } else if (kind < 43) {
            due("drawn " + coin, y.drawn(coin), x.drawn(coin));
        } else if (kind < 47) {
            due("expect " + sale,
                    y.expect(till, price, system, coin, n), x.expect(till, price, system, coin, n));
        } else if (kind < 48) {
            due("forget " + till, y.forget(till) ? 1 : 0, x.forget(till) ? 1 : 0);
        } else {
            int fresh = aCoin(1);
            due("wanted " + till + " " + fresh, y.wanted(till, fresh), x.wanted(till, fresh));
        }
    }

    private void callOfAll(int kind) {
        int k = number(0, 2);
        int system = number(0, 2);
        int what = number(0, 44);
        if (kind == 0) {
            due("image " + k, y.image(k) ? 1 : 0, x.image(k) ? 1 : 0);
        } else if (kind == 1 && random.nextInt(3) == 0) {
            due("again " + k, y.again(k) ? 1 : 0, x.again(k) ? 1 : 0);
        } else {
            due("about " + system + " " + what, y.about(system, what), x.about(system, what));
        }
    }
}
