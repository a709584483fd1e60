/**
 * Each sentence that names a boundary in Term 3 and in promises 11 to 13: the number at the edge, the
 * number beyond it, and that a refused call changes nothing.
 */
public final class EdgesOfSumsTest {
    private static final int NONE = NewCoins.NONE;
    private static final int LEAST = Integer.MIN_VALUE;
    private static final int GREATEST = Integer.MAX_VALUE;
    private static final int[] NO_SYSTEMS = {-1, 2, 3, LEAST, GREATEST};
    private static final int[] NO_SUMS = {-1, 2001, 2002, LEAST, GREATEST};
    private static final Due DUE = new Due();
    private static final Refused FRESH = new Refused(DUE, "fresh", Scenes::fresh);
    private static final Refused RICH = new Refused(DUE, "rich", Scenes::rich);
    private static final Refused FULL = new Refused(DUE, "full", Scenes::full);

    public static void main(String[] args) {
        fewestOfNoSystem();
        fewestOfNoSum();
        fewestOfNoCoin();
        fewestWhereThereIsNone();
        fewestOfTheLeastSums();
        fewestOfTheGreatestSums();
        fewestOfSeveral();
        greedyOfNoSystem();
        greedyOfNoSum();
        greedyAtACoinsValue();
        greedyThatFindsItNot();
        oddOfNoSystem();
        oddWhereThereIsNone();
        oddAtTheEdges();
        DUE.end();
    }

    private static NewCoins with(int system, int... values) {
        NewCoins x = new NewCoins();
        for (int value : values) {
            x.coin(system, value);
        }
        return x;
    }

    /** Promise 11: "no such SYSTEM". */
    private static void fewestOfNoSystem() {
        for (int system : NO_SYSTEMS) {
            for (int k : new int[] {NONE, 0}) {
                RICH.is("fewest " + system + " 6 " + k, NONE, x -> x.fewest(system, 6, k));
                RICH.is("fewest " + system + " 0 " + k, NONE, x -> x.fewest(system, 0, k));
            }
        }
        DUE.is("of OLD", 1, with(0, 6).fewest(0, 6, NONE));
        DUE.is("of NEW", 1, with(1, 6).fewest(1, 6, NONE));
        DUE.is("of the other one", NONE, with(0, 6).fewest(1, 6, NONE));
    }

    /** Promise 11: "no such .. SUM"; Term 3: "A SUM is 0 .. 2000 UNITS". */
    private static void fewestOfNoSum() {
        for (int sum : NO_SUMS) {
            for (int k : new int[] {NONE, 0, 7}) {
                FULL.is("fewest 1 " + sum + " " + k, NONE, x -> x.fewest(1, sum, k));
                FULL.is("fewest 0 " + sum + " " + k, NONE, x -> x.fewest(0, sum, k));
            }
        }
    }

    /** Promise 11: "no such .. COIN"; k NONE asks for all COINS, no other number below 0 does. */
    private static void fewestOfNoCoin() {
        for (int k : new int[] {-2, 3, 8, LEAST, GREATEST}) {
            RICH.is("fewest 1 6 " + k, NONE, x -> x.fewest(1, 6, k));
            RICH.is("fewest 1 0 " + k, NONE, x -> x.fewest(1, 0, k));
        }
        for (int k : new int[] {-2, 8}) {
            FULL.is("fewest 1 200 " + k, NONE, x -> x.fewest(1, 200, k));
        }
        NewCoins x = new NewCoins();
        Scenes.full(x);
        DUE.is("of the last COIN", 1, x.fewest(1, 200, 7));
        DUE.is("of the first COIN", 0, x.fewest(1, 200, 0));
        DUE.is("of all", 1, x.fewest(1, 200, NONE));
        DUE.is("of the first COIN for 1", 1, x.fewest(1, 1, 0));
    }

    /** Promise 11: "NONE: there is none". */
    private static void fewestWhereThereIsNone() {
        for (int system = 0; system <= 1; system++) {
            int of = system;
            FRESH.is("1 without COINS", NONE, x -> x.fewest(of, 1, NONE));
            FRESH.is("2000 without COINS", NONE, x -> x.fewest(of, 2000, NONE));
            FRESH.is("a COIN without COINS", NONE, x -> x.fewest(of, 1, 0));
        }
        NewCoins x = with(1, 3, 5);
        int[] due = {0, NONE, NONE, 1, NONE, 1, 2, NONE, 2, 3, 2};
        for (int sum = 0; sum < due.length; sum++) {
            DUE.is("3 and 5 for " + sum, due[sum], x.fewest(1, sum, NONE));
            DUE.is("of 3 for " + sum, due[sum] == NONE, x.fewest(1, sum, 0) == NONE);
            DUE.is("of 5 for " + sum, due[sum] == NONE, x.fewest(1, sum, 1) == NONE);
        }
    }

    /** Term 3: SUM 0 is made by a row without COINS; a COIN's own value by that COIN. */
    private static void fewestOfTheLeastSums() {
        DUE.is("0 without COINS", 0, new NewCoins().fewest(0, 0, NONE));
        DUE.is("0 without COINS of NEW", 0, new NewCoins().fewest(1, 0, NONE));
        NewCoins x = with(0, 7, 1000);
        DUE.is("0", 0, x.fewest(0, 0, NONE));
        DUE.is("of 7 for 0", 0, x.fewest(0, 0, 0));
        DUE.is("of 1000 for 0", 0, x.fewest(0, 0, 1));
        DUE.is("one below the least value", NONE, x.fewest(0, 6, NONE));
        DUE.is("the least value", 1, x.fewest(0, 7, NONE));
        DUE.is("one above it", NONE, x.fewest(0, 8, NONE));
        DUE.is("the greatest value", 1, x.fewest(0, 1000, NONE));
        DUE.is("of it", 1, x.fewest(0, 1000, 1));
        DUE.is("the greatest below that", 142, x.fewest(0, 994, NONE));
    }

    /** Term 3: "0 .. 2000". */
    private static void fewestOfTheGreatestSums() {
        NewCoins ones = with(1, 1);
        DUE.is("2000 in ones", 2000, ones.fewest(1, 2000, NONE));
        DUE.is("ones of it", 2000, ones.fewest(1, 2000, 0));
        DUE.is("1999 in ones", 1999, ones.fewest(1, 1999, NONE));
        DUE.is("2001 in ones", NONE, ones.fewest(1, 2001, NONE));
        NewCoins x = with(0, 1000, 999, 1);
        DUE.is("2000", 2, x.fewest(0, 2000, NONE));
        DUE.is("1999", 2, x.fewest(0, 1999, NONE));
        DUE.is("1998", 2, x.fewest(0, 1998, NONE));
        DUE.is("of 999 for 1998", 2, x.fewest(0, 1998, 1));
        DUE.is("1997", 1 + 997, x.fewest(0, 1997, NONE));
        DUE.is("of 1 for 1997", 997, x.fewest(0, 1997, 2));
        NewCoins eight = with(1, 993, 994, 995, 996, 997, 998, 999, 1000);
        DUE.is("2000 of eight", 2, eight.fewest(1, 2000, 7));
        DUE.is("1999 of eight: 1000 and 999", 1, eight.fewest(1, 1999, 6));
        DUE.is("1001 of eight", NONE, eight.fewest(1, 1001, NONE));
    }

    private static void row(String what, NewCoins x, int sum, int... due) {
        int all = 0;
        for (int k = 0; k < due.length; k++) {
            DUE.is(what + ", COIN " + k, due[k], x.fewest(1, sum, k));
            all += due[k];
        }
        DUE.is(what + ", all", all, x.fewest(1, sum, NONE));
    }

    /** Term 3: "of several that with the most COINS of the greatest value, .. the next one, and so on". */
    private static void fewestOfSeveral() {
        // 92 = 50 + 30 + 11 + 1 = 50 + 30 + 10 + 2 = 50 + 30 + 6 + 6 = 30 + 30 + 30 + 2
        row("the third place", with(1, 6, 50, 1, 10, 30, 2, 11), 92, 0, 1, 1, 0, 1, 0, 1);
        row("without the 11", with(1, 6, 50, 1, 10, 30, 2), 92, 0, 1, 0, 1, 1, 1);
        row("without the 10", with(1, 6, 50, 1, 30, 2), 92, 2, 1, 0, 1, 0);
        row("the greatest came first", with(1, 50, 30, 11, 10, 6, 2, 1), 92, 1, 1, 1, 0, 0, 0, 1);
        row("fewer COINS are better than greater ones", with(1, 10, 6, 1), 12, 0, 2, 0);
        row("as many: the greatest value", with(1, 6, 10, 2), 12, 0, 1, 1);
    }

    /** Promise 12: "there is no such SYSTEM". */
    private static void greedyOfNoSystem() {
        for (int system : NO_SYSTEMS) {
            RICH.is("greedy " + system + " 6", NONE, x -> x.greedy(system, 6));
            RICH.is("greedy " + system + " 0", NONE, x -> x.greedy(system, 0));
        }
        DUE.is("greedy of OLD", 1, with(0, 6).greedy(0, 6));
        DUE.is("greedy of NEW", 1, with(1, 6).greedy(1, 6));
    }

    /** Promise 12: "there is no such .. SUM". */
    private static void greedyOfNoSum() {
        for (int sum : NO_SUMS) {
            FULL.is("greedy 1 " + sum, NONE, x -> x.greedy(1, sum));
            FULL.is("greedy 0 " + sum, NONE, x -> x.greedy(0, sum));
            FRESH.is("greedy without COINS " + sum, NONE, x -> x.greedy(0, sum));
        }
        DUE.is("2000 in ones", 2000, with(0, 1).greedy(0, 2000));
        DUE.is("1999 in ones", 1999, with(0, 1).greedy(0, 1999));
        DUE.is("0", 0, with(0, 1).greedy(0, 0));
        DUE.is("0 without COINS", 0, new NewCoins().greedy(1, 0));
    }

    /** Term 3: "the COIN of the greatest value that is not above what is left". */
    private static void greedyAtACoinsValue() {
        NewCoins x = with(1, 1, 10, 4);
        int[][] due = {{3, 3}, {4, 1}, {5, 2}, {9, 3}, {10, 1}, {11, 2}, {14, 2}, {20, 2}, {24, 3}};
        for (int[] d : due) {
            DUE.is("greedy for " + d[0], d[1], x.greedy(1, d[0]));
        }
        NewCoins y = with(0, 1000, 1);
        DUE.is("greedy for 999", 999, y.greedy(0, 999));
        DUE.is("greedy for 1000", 1, y.greedy(0, 1000));
        DUE.is("greedy for 1999", 1000, y.greedy(0, 1999));
        DUE.is("greedy for 2000", 2, y.greedy(0, 2000));
    }

    /** Promise 12: "it finds it not"; Term 3: "it finds the SUM if nothing is left at last". */
    private static void greedyThatFindsItNot() {
        for (int system = 0; system <= 1; system++) {
            int of = system;
            FRESH.is("greedy without COINS", NONE, x -> x.greedy(of, 1));
        }
        NewCoins x = with(1, 5, 3);
        DUE.is("1 is left of 6", NONE, x.greedy(1, 6));
        DUE.is("2 is left of 2", NONE, x.greedy(1, 2));
        DUE.is("nothing is left of 8", 2, x.greedy(1, 8));
        DUE.is("1 is left of 9", NONE, x.greedy(1, 9));
    }

    /** Promise 13 of a SYSTEM that is none. */
    private static void oddOfNoSystem() {
        Refused odd = new Refused(DUE, "4, 3, 1", y -> {
            for (int value : new int[] {4, 3, 1}) {
                y.coin(0, value);
                y.coin(1, value);
            }
        });
        for (int system : NO_SYSTEMS) {
            odd.is("odd " + system, NONE, x -> x.odd(system));
        }
        for (int system = 0; system <= 1; system++) {
            int of = system;
            odd.is("odd " + system, 6, x -> x.odd(of));
        }
    }

    /** Promise 13: "NONE: there is none, up to 2000". */
    private static void oddWhereThereIsNone() {
        FRESH.is("odd without COINS", NONE, x -> x.odd(0));
        FRESH.is("odd without COINS of NEW", NONE, x -> x.odd(1));
        FULL.is("odd of 1, 2, 5 and so on", NONE, x -> x.odd(1));
        FULL.is("odd of those twice", NONE, x -> x.odd(0));
        DUE.is("of one COIN", NONE, with(0, 1000).odd(0));
        DUE.is("of a COIN and its half", NONE, with(0, 1000, 500).odd(0));
        DUE.is("of two COINS whose SUMS greedy all finds", NONE, with(0, 1000, 1).odd(0));
    }

    /** Term 3: "the least SUM for which there is FEWEST, and GREEDY finds it not, or by more COINS". */
    private static void oddAtTheEdges() {
        DUE.is("found not", 4, with(1, 3, 2).odd(1));
        DUE.is("by one COIN more", 6, with(1, 4, 3, 1).odd(1));
        DUE.is("by as many is not odd", NONE, with(1, 3, 2, 1).odd(1));
        DUE.is("a SUM without FEWEST is not odd", NONE, with(1, 4, 2).odd(1));
        // An ODD is always below the two greatest values together, so none can be above 1998.
        DUE.is("the greatest", 1998, with(1, 1000, 999).odd(1));
        DUE.is("the greatest, by more COINS", 1998, with(1, 1, 1000, 999).odd(1));
        DUE.is("one less", 1996, with(1, 999, 998).odd(1));
        NewCoins x = with(1, 1000, 999);
        DUE.is("FEWEST of it", 2, x.fewest(1, 1998, NONE));
        DUE.is("GREEDY of it", NONE, x.greedy(1, 1998));
    }
}
