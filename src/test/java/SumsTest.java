/** Promises 11 (fewest), 12 (greedy) and 13 (odd). */
public final class SumsTest {
    private static final int NONE = NewCoins.NONE;
    private static final int[] NO_SYSTEMS = {-1, 2, 3, Integer.MIN_VALUE, Integer.MAX_VALUE};
    private static final Due DUE = new Due();

    public static void main(String[] args) {
        noCoins();
        fewestByHand();
        fewestOfTies();
        greedyByHand();
        oddByHand();
        edgesOfSums();
        againstAllRows();
        DUE.end();
    }

    private static NewCoins with(int system, int... values) {
        NewCoins x = new NewCoins();
        for (int value : values) {
            x.coin(system, value);
        }
        return x;
    }

    private static void noCoins() {
        NewCoins x = new NewCoins();
        for (int system = 0; system <= 1; system++) {
            DUE.is("the empty row makes 0", 0, x.fewest(system, 0, NONE));
            DUE.is("no COIN 0 to ask for", NONE, x.fewest(system, 0, 0));
            DUE.is("no COINS for 1", NONE, x.fewest(system, 1, NONE));
            DUE.is("greedy for 0", 0, x.greedy(system, 0));
            DUE.is("greedy for 1", NONE, x.greedy(system, 1));
            DUE.is("odd of none", NONE, x.odd(system));
        }
        for (int system : NO_SYSTEMS) {
            DUE.is("fewest of no SYSTEM", NONE, x.fewest(system, 0, NONE));
            DUE.is("greedy of no SYSTEM", NONE, x.greedy(system, 0));
            DUE.is("odd of no SYSTEM", NONE, x.odd(system));
        }
    }

    private static void fewestByHand() {
        NewCoins x = with(1, 1, 3, 4);
        DUE.is("fewest for 6", 2, x.fewest(1, 6, NONE));
        DUE.is("of 1", 0, x.fewest(1, 6, 0));
        DUE.is("of 3", 2, x.fewest(1, 6, 1));
        DUE.is("of 4", 0, x.fewest(1, 6, 2));
        DUE.is("of no COIN 3", NONE, x.fewest(1, 6, 3));
        DUE.is("of no COIN -2", NONE, x.fewest(1, 6, -2));
        DUE.is("of no COIN least", NONE, x.fewest(1, 6, Integer.MIN_VALUE));
        DUE.is("of no COIN greatest", NONE, x.fewest(1, 6, Integer.MAX_VALUE));
        DUE.is("the other SYSTEM has none", NONE, x.fewest(0, 6, NONE));
        DUE.is("for 0", 0, x.fewest(1, 0, NONE));
        DUE.is("of a COIN for 0", 0, x.fewest(1, 0, 2));
        x = with(0, 6, 10);
        DUE.is("what no row makes", NONE, x.fewest(0, 14, NONE));
        DUE.is("of a COIN for that", NONE, x.fewest(0, 14, 0));
        DUE.is("less than each COIN", NONE, x.fewest(0, 5, NONE));
        DUE.is("18 in three sixes", 3, x.fewest(0, 18, NONE));
        x.coin(0, 9);
        DUE.is("18 in two nines, as they came", 2, x.fewest(0, 18, NONE));
        DUE.is("nines", 2, x.fewest(0, 18, 2));
    }

    private static void fewestOfTies() {
        // 12: 1 + 5 + 6 would be three, 6 + 6 and 1 + 11 and 2 + 10 two
        NewCoins x = with(1, 6, 1, 10, 2, 11);
        DUE.is("for 12", 2, x.fewest(1, 12, NONE));
        int[] due = {0, 1, 0, 0, 1};
        for (int k = 0; k < 5; k++) {
            DUE.is("the greatest first, COIN " + k, due[k], x.fewest(1, 12, k));
        }
        // 15 in three: 9 + 5 + 1, 9 + 3 + 3, 5 + 5 + 5
        x = with(0, 5, 1, 9, 3);
        int[] three = {1, 1, 1, 0};
        DUE.is("for 15", 3, x.fewest(0, 15, NONE));
        for (int k = 0; k < 4; k++) {
            DUE.is("then the next one, COIN " + k, three[k], x.fewest(0, 15, k));
        }
    }

    private static void greedyByHand() {
        NewCoins x = with(1, 3, 1, 4);
        DUE.is("greedy for 6", 3, x.greedy(1, 6));
        DUE.is("greedy for 8", 2, x.greedy(1, 8));
        DUE.is("greedy for 0", 0, x.greedy(1, 0));
        DUE.is("the other SYSTEM", NONE, x.greedy(0, 6));
        x = with(0, 3, 4);
        DUE.is("greedy is left with 2", NONE, x.greedy(0, 6));
        DUE.is("though there is FEWEST", 2, x.fewest(0, 6, NONE));
        DUE.is("greedy for 7", 2, x.greedy(0, 7));
    }

    private static void oddByHand() {
        DUE.is("by more COINS", 6, with(1, 4, 3, 1).odd(1));
        DUE.is("by not finding it", 6, with(0, 3, 4).odd(0));
        DUE.is("none", NONE, with(0, 1, 2, 5, 10, 20, 50, 100, 200).odd(0));
        DUE.is("none of one COIN", NONE, with(0, 7).odd(0));
        DUE.is("old pence", 48, with(0, 1, 3, 6, 12, 24, 30, 60, 240).odd(0));
        // 1998 = 2 * 999, where greedy takes 1000 and is left with 998
        DUE.is("near the greatest SUM", 1998, with(1, 999, 1000).odd(1));
        DUE.is("just above the greatest COIN", 1334, with(1, 1000, 667).odd(1));
        NewCoins x = with(1, 4, 3, 1);
        DUE.is("of the other SYSTEM", NONE, x.odd(0));
        x.coin(1, 6);
        // 7 = 4 + 3 = 6 + 1; 8 = 4 + 4 = 6 + 1 + 1
        DUE.is("with a further COIN", 8, x.odd(1));
    }

    private static void edgesOfSums() {
        NewCoins x = with(1, 1, 1000);
        DUE.is("the greatest SUM", 2, x.fewest(1, 2000, NONE));
        DUE.is("greedy for it", 2, x.greedy(1, 2000));
        DUE.is("the one below", 1000, x.fewest(1, 1999, NONE));
        DUE.is("greedy for that", 1000, x.greedy(1, 1999));
        DUE.is("of 1 for that", 999, x.fewest(1, 1999, 0));
        DUE.is("in ones alone", 2000, with(0, 1).fewest(0, 2000, 0));
        for (int sum : new int[] {-1, 2001, Integer.MIN_VALUE, Integer.MAX_VALUE}) {
            DUE.is("fewest for " + sum, NONE, x.fewest(1, sum, NONE));
            DUE.is("fewest of a COIN for " + sum, NONE, x.fewest(1, sum, 0));
            DUE.is("greedy for " + sum, NONE, x.greedy(1, sum));
        }
    }

    /** Small SYSTEMS and sums, each against a walk through all rows. */
    private static void againstAllRows() {
        java.util.Random random = new java.util.Random(11);
        for (int run = 0; run < 150; run++) {
            NewCoins x = new NewCoins();
            int system = run & 1;
            int coins = 1 + random.nextInt(8);
            for (int i = 0; i < coins; i++) {
                x.coin(system, 2 + random.nextInt(18) - run % 2);
            }
            coins = x.about(system, 0);
            int[] values = new int[coins];
            for (int i = 0; i < coins; i++) {
                values[i] = x.about(system, 10 + i);
            }
            int odd = NONE;
            for (int sum = 0; sum <= 36; sum++) {
                int[] best = AllRows.best(values, null, sum);
                int all = best == null ? NONE : AllRows.coinsIn(best);
                String call = "run " + run + " fewest for " + sum;
                DUE.is(call, all, x.fewest(system, sum, NONE));
                for (int k = 0; k < coins; k++) {
                    DUE.is(call + " of " + k, best == null ? NONE : best[k], x.fewest(system, sum, k));
                }
                int greedy = takenGreedily(values, sum);
                DUE.is("run " + run + " greedy for " + sum, greedy, x.greedy(system, sum));
                if (odd == NONE && best != null && greedy != all) {
                    odd = sum;
                }
            }
            int got = x.odd(system);
            DUE.is("run " + run + " odd", odd, got > 36 ? NONE : got);
        }
    }

    private static int takenGreedily(int[] values, int sum) {
        int taken = 0;
        int left = sum;
        while (left > 0) {
            int greatest = 0;
            for (int value : values) {
                if (value <= left && value > greatest) {
                    greatest = value;
                }
            }
            if (greatest == 0) {
                return NONE;
            }
            left -= greatest;
            taken++;
        }
        return taken;
    }
}
