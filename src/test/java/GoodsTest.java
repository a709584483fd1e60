/** Promises 4 (good), 5 (sold), 7 (price), 8 (gain), 9 (fairest) and 10 (gains). */
public final class GoodsTest {
    private static final int NONE = NewCoins.NONE;
    private static final Due DUE = new Due();

    public static void main(String[] args) {
        goodNumbers();
        soldNumbers();
        pricesByRule();
        pricesAtTheEdges();
        pricesBySearch();
        gainsOfAll();
        fairestByHand();
        fairestOfTies();
        fairestBySearch();
        DUE.end();
    }

    private static void goodNumbers() {
        NewCoins x = new NewCoins();
        int[][] wrong = {
            {0, 5}, {-1, 5}, {10001, 5}, {5, -1}, {5, 101},
            {Integer.MIN_VALUE, 5}, {Integer.MAX_VALUE, 5}, {5, Integer.MIN_VALUE}
        };
        for (int[] w : wrong) {
            DUE.is("good " + w[0] + " " + w[1], NONE, x.good(w[0], w[1]));
        }
        DUE.is("no GOOD came", 0, x.about(2, 0));
        DUE.is("the least GOOD", 0, x.good(1, 0));
        DUE.is("the greatest GOOD", 1, x.good(10000, 100));
        DUE.is("the same GOOD once more", 2, x.good(10000, 100));
        for (int g = 3; g < 14; g++) {
            DUE.is("good " + g, g, x.good(g, g));
        }
        DUE.is("a fifteenth GOOD", NONE, x.good(1, 1));
        DUE.is("GOODS", 14, x.about(2, 0));
        DUE.is("price of the last one", 13, x.price(13, 0));
        x.rate(1, 2);
        // the PRICES 1, 3, 5 .. 13 are half a UNIT off, by one PART
        DUE.is("gain of 14 GOODS", 3 + 5 + 7 + 9 + 11 + 13, x.gain(1));
        DUE.is("gains of 14 GOODS", -(3 + 5 + 7 + 9 + 11) + 13, x.gains(1 << 13));
    }

    private static void soldNumbers() {
        NewCoins x = new NewCoins();
        DUE.is("sold of no GOOD yet", false, x.sold(0, 5));
        x.good(7, 9);
        x.good(8, 9);
        DUE.is("sold 0", true, x.sold(1, 0));
        DUE.is("SOLD is 0", 0, x.about(2, 31));
        DUE.is("sold 100", true, x.sold(1, 100));
        DUE.is("SOLD is 100", 100, x.about(2, 31));
        DUE.is("SOLD of the other", 9, x.about(2, 30));
        for (int n : new int[] {-1, 101, Integer.MIN_VALUE, Integer.MAX_VALUE}) {
            DUE.is("sold " + n, false, x.sold(1, n));
        }
        for (int good : new int[] {-1, 2, 14, Integer.MIN_VALUE, Integer.MAX_VALUE}) {
            DUE.is("sold of GOOD " + good, false, x.sold(good, 1));
        }
        DUE.is("SOLD stays", 100, x.about(2, 31));
    }

    private static void pricesByRule() {
        NewCoins x = new NewCoins();
        x.rate(5, 12);
        x.good(6, 1);   // 30 PARTS: two UNITS of NEW and a half
        x.good(12, 1);  // 60 PARTS: five UNITS of NEW
        x.good(3, 1);   // 15 PARTS: one UNIT and a quarter
        x.good(18, 1);  // 90 PARTS: seven UNITS and a half
        int[][] due = {{2, 3, 3, 2}, {5, 5, 5, 5}, {1, 2, 1, 1}, {7, 8, 8, 8}};
        for (int good = 0; good < 4; good++) {
            for (int rule = 0; rule < 4; rule++) {
                DUE.is("price " + good + " " + rule, due[good][rule], x.price(good, rule));
            }
        }
        x.step(5);
        int[][] byFives = {{0, 5, 5, 0}, {5, 5, 5, 5}, {0, 5, 0, 0}, {5, 10, 10, 10}};
        for (int good = 0; good < 4; good++) {
            for (int rule = 0; rule < 4; rule++) {
                DUE.is("by fives " + good + " " + rule, byFives[good][rule], x.price(good, rule));
            }
        }
        for (int rule : new int[] {-1, 4, Integer.MIN_VALUE, Integer.MAX_VALUE}) {
            DUE.is("price by no RULE " + rule, NONE, x.price(0, rule));
            DUE.is("gain by no RULE " + rule, 0, x.gain(rule));
        }
        for (int good : new int[] {-1, 4, 14, Integer.MIN_VALUE, Integer.MAX_VALUE}) {
            DUE.is("price of no GOOD " + good, NONE, x.price(good, 0));
        }
    }

    private static void pricesAtTheEdges() {
        NewCoins x = new NewCoins();
        x.good(10000, 100);
        x.good(1, 100);
        x.rate(100, 1);
        DUE.is("the dearest", 1000000, x.price(0, 0));
        x.rate(1, 100);
        x.step(100);
        DUE.is("the cheapest down", 0, x.price(1, 0));
        DUE.is("the cheapest up", 100, x.price(1, 1));
        DUE.is("the cheapest nearest", 0, x.price(1, 2));
        // 10000 PARTS of each NEW PRICE by RULE 1, less 10000 and less 1 of the PRICES
        DUE.is("GAINS up", 100 * (10000 - 1), x.gain(1));
        DUE.is("GAINS down", -100, x.gain(0));
    }

    /** Every rule against a search through all multiples of the STEP. */
    private static void pricesBySearch() {
        int[] steps = {1, 2, 5, 7, 100};
        int[][] rates = {{1, 1}, {1, 2}, {2, 1}, {5, 12}, {12, 5}, {1, 100}, {99, 100}};
        for (int[] r : rates) {
            for (int step : steps) {
                NewCoins x = new NewCoins();
                x.rate(r[0], r[1]);
                x.step(step);
                for (int g = 0; g < 14; g++) {
                    int price = 1 + g * g * 7 + g * step;
                    x.good(price, 1);
                    for (int rule = 0; rule < 4; rule++) {
                        int want = searched(price * r[0], r[1], step, rule);
                        String call = "price " + price + " rule " + rule + " rate " + r[0] + " "
                                + r[1] + " step " + step;
                        DUE.is(call, want, x.price(g, rule));
                    }
                }
            }
        }
    }

    private static int searched(int parts, int b, int step, int rule) {
        int found = NONE;
        for (int p = 0; (p - step) * b <= parts; p += step) {
            boolean better;
            int far = Math.abs(p * b - parts);
            int before = found == NONE ? Integer.MAX_VALUE : Math.abs(found * b - parts);
            if (rule == 0) {
                better = p * b <= parts;
            } else if (rule == 1) {
                better = p * b >= parts && found == NONE;
            } else {
                boolean tieWins = rule == 2 || p % (2 * step) == 0;
                better = far < before || far == before && tieWins;
            }
            if (better) {
                found = p;
            }
        }
        return found;
    }

    private static void gainsOfAll() {
        NewCoins x = new NewCoins();
        x.rate(5, 12);
        x.good(6, 10);  // 30 PARTS: down 24, up 36
        x.good(3, 4);   // 15 PARTS: down 12, up 24
        DUE.is("gain down", -60 - 12, x.gain(0));
        DUE.is("gain up", 60 + 36, x.gain(1));
        DUE.is("gain nearest", 60 - 12, x.gain(2));
        DUE.is("gain nearest, even", -60 - 12, x.gain(3));
        DUE.is("gains 0", -72, x.gains(0));
        DUE.is("gains 1", 60 - 12, x.gains(1));
        DUE.is("gains 2", -60 + 36, x.gains(2));
        DUE.is("gains 3", 96, x.gains(3));
        DUE.is("gains with a bit of no GOOD", -72, x.gains(4));
        DUE.is("gains with all bits of no GOOD", 60 - 12, x.gains(-3));
        DUE.is("gains with all bits", 96, x.gains(-1));
        DUE.is("gains with the sign alone", -72, x.gains(Integer.MIN_VALUE));
        x.sold(0, 0);
        DUE.is("gain up, one not SOLD", 36, x.gain(1));
    }

    private static void fairestByHand() {
        NewCoins x = new NewCoins();
        DUE.is("no GOODS", 0, x.fairest());
        x.rate(5, 12);
        x.good(6, 10);
        x.good(3, 4);
        // -72, 48, -24, 96
        DUE.is("the least of four", 2, x.fairest());
        x.sold(0, 0);
        // -12, -12, 36, 36
        DUE.is("a GOOD not SOLD stays down", 0, x.fairest());
    }

    private static void fairestOfTies() {
        NewCoins x = new NewCoins();
        x.rate(1, 2);
        x.good(1, 1);  // down -1, up 1
        DUE.is("as near on both sides", 0, x.fairest());
        x.good(1, 1);
        DUE.is("one of two ways to nothing", 1, x.fairest());
        x.good(2, 50);
        DUE.is("an even price turns no bit", 1, x.fairest());
        x.good(1, 2);
        // the bits 0, 1 and 3 weigh 1, 1 and 2: nothing is left by 3 or by 8
        DUE.is("the lesser number of bits", 3, x.fairest());
        DUE.is("GAINS of it", 0, x.gains(x.fairest()));
    }

    /** FAIREST of up to 14 GOODS against all ways, each reckoned from the NEW PRICES. */
    private static void fairestBySearch() {
        java.util.Random random = new java.util.Random(7);
        for (int run = 0; run < 12; run++) {
            NewCoins x = new NewCoins();
            int a = 1 + random.nextInt(100);
            int b = 1 + random.nextInt(100);
            x.rate(a, b);
            x.step(1 + random.nextInt(20));
            int goods = run < 2 ? 14 : 1 + random.nextInt(8);
            long[][] gains = new long[goods][2];
            for (int g = 0; g < goods; g++) {
                int price = 1 + random.nextInt(10000);
                int sold = random.nextInt(run % 3 == 0 ? 3 : 101);
                x.good(price, sold);
                for (int rule = 0; rule < 2; rule++) {
                    gains[g][rule] = (long) (x.price(g, rule) * b - price * a) * sold;
                }
            }
            int best = fairestOf(gains);
            DUE.is("fairest of run " + run, best, x.fairest());
            DUE.is("its GAINS", gainsOf(gains, best), x.gains(best));
        }
    }

    private static int fairestOf(long[][] gains) {
        int best = 0;
        for (int way = 1; way < 1 << gains.length; way++) {
            if (Math.abs(gainsOf(gains, way)) < Math.abs(gainsOf(gains, best))) {
                best = way;
            }
        }
        return best;
    }

    private static long gainsOf(long[][] gains, int way) {
        long all = 0;
        for (int g = 0; g < gains.length; g++) {
            all += gains[g][way >> g & 1];
        }
        return all;
    }
}
