/**
 * Each sentence that names a boundary in Terms 1 and 2 and in promises 1 to 10 and 25: the number at
 * the edge, the number beyond it, and that a refused call changes nothing.
 */
public final class EdgesOfLandTest {
    private static final int NONE = NewCoins.NONE;
    private static final int LEAST = Integer.MIN_VALUE;
    private static final int GREATEST = Integer.MAX_VALUE;
    private static final Due DUE = new Due();
    private static final Refused FRESH = new Refused(DUE, "fresh", Scenes::fresh);
    private static final Refused OPEN = new Refused(DUE, "open", Scenes::open);
    private static final Refused RICH = new Refused(DUE, "rich", Scenes::rich);
    private static final Refused FULL = new Refused(DUE, "full", Scenes::full);

    public static void main(String[] args) {
        newObjectHasNothing();
        coinOfNoSystem();
        coinsUpToEight();
        coinOfThatValue();
        coinOfAnotherValue();
        rateOfOtherNumbers();
        rateIfASaleWas();
        goodsUpToFourteen();
        goodOfOtherNumbers();
        soldOfNoGood();
        soldAnotherNumber();
        stepOfAnotherNumber();
        priceOfNone();
        priceOfNoRule();
        priceNotWorthMore();
        priceNotWorthLess();
        priceNearest();
        priceNearestOfTwiceTheStep();
        priceAtTheGreatestNumbers();
        gainOfNoRule();
        gainAtTheGreatestNumbers();
        fairestOfNone();
        fairestOfAll();
        fairestWithASignOrWithout();
        fairestOfSeveral();
        gainsOfBitsBeyond();
        aboutSystems();
        aboutTheLand();
        aboutNoSystem();
        DUE.end();
    }

    private static NewCoins rich() {
        NewCoins x = new NewCoins();
        Scenes.rich(x);
        return x;
    }

    private static NewCoins full() {
        NewCoins x = new NewCoins();
        Scenes.full(x);
        return x;
    }

    /** One GOOD of a PRICE, SOLD once. */
    private static NewCoins priced(int a, int b, int step, int price) {
        NewCoins x = new NewCoins();
        x.rate(a, b);
        x.step(step);
        x.good(price, 1);
        return x;
    }

    /** Promise 1: "No COINS, GOODS, TILLS; no images"; Terms 1 and 2: "at first". */
    private static void newObjectHasNothing() {
        NewCoins x = new NewCoins();
        int[][] due = {{0, 0, 0}, {1, 0, 0}, {2, 0, 0}, {2, 1, 0}, {2, 2, 1}, {2, 3, 1}, {2, 4, 1}};
        for (int[] d : due) {
            DUE.is("new: about " + d[0] + " " + d[1], d[2], x.about(d[0], d[1]));
        }
        for (int k = 0; k < 3; k++) {
            int image = k;
            FRESH.is("again " + k, false, y -> y.again(image));
        }
        FRESH.is("sold", false, y -> y.sold(0, 1));
        FRESH.is("price", NONE, y -> y.price(0, 0));
        FRESH.is("gain", 0, y -> y.gain(1));
        FRESH.is("fairest", 0, NewCoins::fairest);
        FRESH.is("gains", 0, y -> y.gains(-1));
        FRESH.is("put", NONE, y -> y.put(0, 1, 0, 1));
        FRESH.is("sale", NONE, y -> y.sale(0, 1, 1, 0, 1));
        FRESH.is("given", NONE, y -> y.given(0, 0));
        FRESH.is("tell", -1, y -> y.tell(0, 0));
        FRESH.is("has", NONE, y -> y.has(0, 1, 0));
        FRESH.is("draw", -1, y -> y.draw(0));
        FRESH.is("drawn", NONE, y -> y.drawn(0));
        FRESH.is("expect", NONE, y -> y.expect(0, 1, 1, 0, 1));
        FRESH.is("forget", false, y -> y.forget(0));
        FRESH.is("wanted", NONE, y -> y.wanted(0, 0));
    }

    /** Promise 2: "there is no such SYSTEM"; Term 1: "SYSTEMS are 0, OLD, and 1, NEW". */
    private static void coinOfNoSystem() {
        for (int system : new int[] {-1, 2, 3, LEAST, GREATEST}) {
            FRESH.is("coin " + system + " 3", NONE, x -> x.coin(system, 3));
            RICH.is("coin " + system + " 3", NONE, x -> x.coin(system, 3));
        }
        for (int system = 0; system <= 1; system++) {
            NewCoins x = new NewCoins();
            DUE.is("coin " + system, 0, x.coin(system, 3));
            DUE.is("COINS of that SYSTEM", 1, x.about(system, 0));
            DUE.is("COINS of the other", 0, x.about(1 - system, 0));
        }
    }

    /** Promise 2: "it has 8"; Term 1: "at most 8", "numbered from 0 on as they came". */
    private static void coinsUpToEight() {
        for (int system = 0; system <= 1; system++) {
            int of = system;
            NewCoins x = new NewCoins();
            for (int i = 0; i < 8; i++) {
                DUE.is("coin " + i + " of " + system, i, x.coin(system, 500 - 100 * (i & 1) + i));
            }
            DUE.is("the eighth COIN", 407, x.about(system, 17));
            DUE.is("a ninth", NONE, x.coin(system, 3));
            DUE.is("the other SYSTEM has room", 0, x.coin(1 - system, 3));
            FULL.is("a ninth of " + system, NONE, y -> y.coin(of, 3));
            FULL.is("a ninth of the least value", NONE, y -> y.coin(of, 1));
            FULL.is("a ninth of the greatest value", NONE, y -> y.coin(of, 1000));
            FULL.is("a ninth of a wrong value", NONE, y -> y.coin(of, 1001));
        }
    }

    /** Promise 2: "or that value"; Term 1: "unlike ones". */
    private static void coinOfThatValue() {
        for (int value : new int[] {12, 30, 6}) {
            RICH.is("coin 0 " + value, NONE, x -> x.coin(0, value));
            DUE.is("coin 1 " + value, 3, rich().coin(1, value));
        }
        for (int value : new int[] {1, 7, 2}) {
            RICH.is("coin 1 " + value, NONE, x -> x.coin(1, value));
            DUE.is("coin 0 " + value, 3, rich().coin(0, value));
        }
        // the neighbours of a value are other values
        DUE.is("coin 0 11", 3, rich().coin(0, 11));
        DUE.is("coin 0 13", 3, rich().coin(0, 13));
    }

    /** Promise 2: "or another value"; Term 1: "1 .. 1000". */
    private static void coinOfAnotherValue() {
        for (int system = 0; system <= 1; system++) {
            int of = system;
            for (int value : new int[] {0, -1, 1001, LEAST, GREATEST}) {
                FRESH.is("coin of value " + value, NONE, x -> x.coin(of, value));
                RICH.is("coin of value " + value, NONE, x -> x.coin(of, value));
            }
            NewCoins x = new NewCoins();
            DUE.is("the least value", 0, x.coin(system, 1));
            DUE.is("the greatest value", 1, x.coin(system, 1000));
            DUE.is("it is 1", 1, x.about(system, 10));
            DUE.is("it is 1000", 1000, x.about(system, 11));
            DUE.is("beyond it", NONE, x.coin(system, 1001));
            DUE.is("a refused COIN takes no number", 2, x.coin(system, 999));
        }
    }

    /** Promise 3: "false for others"; Term 1: "a and b 1 .. 100". */
    private static void rateOfOtherNumbers() {
        for (int no : new int[] {0, -1, 101, LEAST, GREATEST}) {
            OPEN.is("rate " + no + " 7", false, x -> x.rate(no, 7));
            OPEN.is("rate 7 " + no, false, x -> x.rate(7, no));
            OPEN.is("rate " + no + " " + no, false, x -> x.rate(no, no));
        }
        for (int[] r : new int[][] {{1, 1}, {1, 100}, {100, 1}, {100, 100}}) {
            NewCoins x = new NewCoins();
            Scenes.open(x);
            DUE.is("rate " + r[0] + " " + r[1], true, x.rate(r[0], r[1]));
            DUE.is("a", r[0], x.about(2, 2));
            DUE.is("b", r[1], x.about(2, 3));
            DUE.is("it may change again", true, x.rate(2, 3));
        }
    }

    /** Promise 3: "or if a SALE was". */
    private static void rateIfASaleWas() {
        RICH.is("rate 7 9", false, x -> x.rate(7, 9));
        RICH.is("the rate that it is", false, x -> x.rate(5, 12));
        FULL.is("rate 1 1", false, x -> x.rate(1, 1));
        for (int till = 0; till < 4; till++) {
            NewCoins x = new NewCoins();
            x.coin(1, 5);
            for (int i = 0; i < 4; i++) {
                x.till();
            }
            x.expect(till, 5, 1, 0, 1);
            x.put(till, 1, 0, 5);
            DUE.is("a refused SALE", NONE, x.sale(till, 6, 1, 0, 1));
            DUE.is("no SALE was", true, x.rate(2, 3));
            x.image(0);
            DUE.is("a SALE", 0, x.sale(till, 5, 1, 0, 1));
            DUE.is("a SALE was at TILL " + till, false, x.rate(3, 2));
            x.put(till, 1, 0, -6);
            DUE.is("though its COINS are gone", false, x.rate(3, 2));
            x.again(0);
            DUE.is("no SALE was in the image", true, x.rate(3, 2));
        }
    }

    /** Promise 4: "there are 14"; Term 2: "at most 14, from 0 on". */
    private static void goodsUpToFourteen() {
        NewCoins x = new NewCoins();
        for (int i = 0; i < 14; i++) {
            DUE.is("good " + i, i, x.good(1 + i, i));
        }
        DUE.is("PRICE of the fourteenth", 14, x.about(2, 23));
        DUE.is("SOLD of the fourteenth", 13, x.about(2, 43));
        DUE.is("a fifteenth", NONE, x.good(1, 1));
        FULL.is("a fifteenth", NONE, y -> y.good(1, 1));
        FULL.is("a fifteenth, not SOLD", NONE, y -> y.good(10000, 0));
        FULL.is("a fifteenth of wrong numbers", NONE, y -> y.good(0, 101));
    }

    /** Promise 4: "or other numbers"; Term 2: "1 .. 10000 UNITS of OLD", "SOLD 0 .. 100 times". */
    private static void goodOfOtherNumbers() {
        for (int price : new int[] {0, -1, 10001, LEAST, GREATEST}) {
            RICH.is("good " + price + " 5", NONE, x -> x.good(price, 5));
        }
        for (int sold : new int[] {-1, 101, LEAST, GREATEST}) {
            RICH.is("good 5 " + sold, NONE, x -> x.good(5, sold));
        }
        int[][] edges = {{1, 0}, {1, 100}, {10000, 0}, {10000, 100}};
        for (int[] e : edges) {
            NewCoins x = rich();
            x.good(0, 5);
            x.good(5, 101);
            DUE.is("good " + e[0] + " " + e[1], 2, x.good(e[0], e[1]));
            DUE.is("its PRICE", e[0], x.about(2, 12));
            DUE.is("SOLD", e[1], x.about(2, 32));
        }
    }

    /** Promise 5: "there is none such". */
    private static void soldOfNoGood() {
        for (int good : new int[] {-1, 2, 13, 14, LEAST, GREATEST}) {
            RICH.is("sold of GOOD " + good, false, x -> x.sold(good, 5));
        }
        FULL.is("sold of GOOD 14", false, x -> x.sold(14, 5));
        NewCoins x = full();
        DUE.is("sold of GOOD 13", true, x.sold(13, 77));
        DUE.is("SOLD of GOOD 13", 77, x.about(2, 43));
        DUE.is("sold of GOOD 0", true, x.sold(0, 78));
        DUE.is("SOLD of GOOD 0", 78, x.about(2, 30));
    }

    /** Promise 5: "or another number"; Term 2: "0 .. 100". */
    private static void soldAnotherNumber() {
        for (int n : new int[] {-1, 101, LEAST, GREATEST}) {
            RICH.is("sold " + n, false, x -> x.sold(1, n));
        }
        for (int n : new int[] {0, 100}) {
            NewCoins x = rich();
            DUE.is("sold " + n, true, x.sold(1, n));
            DUE.is("SOLD", n, x.about(2, 31));
            DUE.is("PRICE stays", 77, x.about(2, 11));
            DUE.is("the other GOOD stays", 10, x.about(2, 30));
        }
    }

    /** Promise 6: "false for another one"; Term 2: "STEP is 1 .. 100". */
    private static void stepOfAnotherNumber() {
        for (int step : new int[] {0, -1, 101, LEAST, GREATEST}) {
            RICH.is("step " + step, false, x -> x.step(step));
        }
        for (int step : new int[] {1, 100}) {
            NewCoins x = rich();
            DUE.is("step " + step, true, x.step(step));
            DUE.is("STEP", step, x.about(2, 4));
        }
    }

    /** Promise 7: "there is none such (of either)": no such GOOD. */
    private static void priceOfNone() {
        for (int rule = 0; rule < 4; rule++) {
            int by = rule;
            for (int good : new int[] {-1, 2, 14, LEAST, GREATEST}) {
                RICH.is("price of GOOD " + good, NONE, x -> x.price(good, by));
            }
            FULL.is("price of GOOD 14", NONE, x -> x.price(14, by));
        }
        // the last GOOD of all: 49 UNITS of OLD are 245 PARTS, 61 UNITS of NEW and a PART
        DUE.is("price of GOOD 13", 61, full().price(13, 0));
    }

    /** Promise 7: "there is none such (of either)": no such RULE. */
    private static void priceOfNoRule() {
        for (int rule : new int[] {-1, 4, 5, LEAST, GREATEST}) {
            RICH.is("price by RULE " + rule, NONE, x -> x.price(0, rule));
            FRESH.is("price of none by RULE " + rule, NONE, x -> x.price(0, rule));
        }
        // 77 UNITS of OLD are 385 PARTS, 32 UNITS of NEW and a bit
        int[] due = {30, 35, 30, 30};
        for (int rule = 0; rule < 4; rule++) {
            DUE.is("price by RULE " + rule, due[rule], rich().price(1, rule));
        }
    }

    private static void prices(int[][] due, int a, int b, int step, int rule) {
        for (int[] d : due) {
            String call = "price " + d[0] + " at " + a + " to " + b + ", STEP " + step + ", RULE " + rule;
            DUE.is(call, d[1], priced(a, b, step, d[0]).price(0, rule));
        }
    }

    /** Term 2: "0 the greatest that is not worth more than the PRICE". */
    private static void priceNotWorthMore() {
        prices(new int[][] {{1, 0}, {9, 0}, {10, 1}, {11, 1}, {19, 1}, {20, 2}}, 1, 10, 1, 0);
        prices(new int[][] {{1, 0}, {6, 0}, {7, 7}, {8, 7}, {13, 7}, {14, 14}}, 1, 1, 7, 0);
        prices(new int[][] {{9999, 0}, {10000, 100}}, 1, 100, 100, 0);
        prices(new int[][] {{1, 100}, {2, 200}}, 100, 1, 100, 0);
    }

    /** Term 2: "1 the least that is not worth less". */
    private static void priceNotWorthLess() {
        prices(new int[][] {{1, 1}, {9, 1}, {10, 1}, {11, 2}, {20, 2}, {21, 3}}, 1, 10, 1, 1);
        prices(new int[][] {{1, 7}, {6, 7}, {7, 7}, {8, 14}, {14, 14}, {15, 21}}, 1, 1, 7, 1);
        prices(new int[][] {{1, 100}, {9999, 100}, {10000, 100}}, 1, 100, 100, 1);
        prices(new int[][] {{1, 100}, {2, 200}}, 100, 1, 100, 1);
    }

    /** Term 2: "2 the nearest one, the greater one of two as near". */
    private static void priceNearest() {
        prices(new int[][] {{4, 0}, {5, 1}, {6, 1}, {14, 1}, {15, 2}, {16, 2}, {25, 3}}, 1, 10, 1, 2);
        // no two are as near if the STEP has an odd number of PARTS
        prices(new int[][] {{3, 0}, {4, 7}, {7, 7}, {10, 7}, {11, 14}}, 1, 1, 7, 2);
        prices(new int[][] {{4999, 0}, {5000, 100}, {5001, 100}}, 1, 100, 100, 2);
    }

    /** Term 2: "3 the nearest one, of two as near that into which twice the STEP goes". */
    private static void priceNearestOfTwiceTheStep() {
        prices(new int[][] {{4, 0}, {5, 0}, {6, 1}, {14, 1}, {15, 2}, {16, 2}}, 1, 10, 1, 3);
        prices(new int[][] {{24, 2}, {25, 2}, {26, 3}, {34, 3}, {35, 4}}, 1, 10, 1, 3);
        // STEP 3: 6 goes into 0, 6 and 12, not into 3 and 9; a STEP is 6 PARTS
        prices(new int[][] {{3, 0}, {4, 3}, {9, 6}, {8, 3}, {15, 6}, {16, 9}, {21, 12}}, 1, 2, 3, 3);
        prices(new int[][] {{4999, 0}, {5000, 0}, {5001, 100}}, 1, 100, 100, 3);
        prices(new int[][] {{3, 0}, {4, 7}, {10, 7}, {11, 14}}, 1, 1, 7, 3);
    }

    /** Terms 1 and 2: the greatest and least PRICE at the greatest and least RATE and STEP. */
    private static void priceAtTheGreatestNumbers() {
        for (int rule = 0; rule < 4; rule++) {
            prices(new int[][] {{10000, 1000000}, {1, 100}}, 100, 1, 1, rule);
            prices(new int[][] {{10000, 1000000}, {1, 100}}, 100, 1, 100, rule);
            prices(new int[][] {{10000, 10000}, {100, 100}}, 100, 100, 100, rule);
            prices(new int[][] {{10000, 100}, {100, 1}}, 1, 100, 1, rule);
        }
    }

    /** Promise 8: "0: there is no such RULE". */
    private static void gainOfNoRule() {
        for (int rule : new int[] {-1, 4, LEAST, GREATEST}) {
            RICH.is("gain " + rule, 0, x -> x.gain(rule));
        }
        // 500 and 385 PARTS; 40, 45, 30 and 35 UNITS of NEW are 480, 540, 360 and 420
        long[] due = {-20 * 10 - 25 * 20, 40 * 10 + 35 * 20, -20 * 10 - 25 * 20, -20 * 10 - 25 * 20};
        for (int rule = 0; rule < 4; rule++) {
            DUE.is("gain " + rule, due[rule], rich().gain(rule));
        }
    }

    /** Term 2: 14 GOODS of one PART too much or too little, SOLD 100 times, at the dearest STEP. */
    private static void gainAtTheGreatestNumbers() {
        NewCoins x = new NewCoins();
        x.rate(1, 100);
        x.step(100);
        NewCoins y = new NewCoins();
        y.rate(1, 100);
        y.step(100);
        for (int i = 0; i < 14; i++) {
            x.good(9999, 100);
            y.good(1, 100);
        }
        DUE.is("gain 0", -9999L * 100 * 14, x.gain(0));
        DUE.is("gain 1", 100 * 14, x.gain(1));
        DUE.is("gains of no bits", -9999L * 100 * 14, x.gains(0));
        DUE.is("gain 0 of the cheapest", -100 * 14, y.gain(0));
        DUE.is("gain 1 of the cheapest", 9999L * 100 * 14, y.gain(1));
        DUE.is("gains of all bits", 9999L * 100 * 14, y.gains((1 << 14) - 1));
        for (int i = 0; i < 14; i++) {
            x.sold(i, 0);
        }
        DUE.is("gain of GOODS that are SOLD 0 times", 0, x.gain(0));
    }

    /** Promise 9 without GOODS, and with such as make no difference. */
    private static void fairestOfNone() {
        DUE.is("fairest of no GOODS", 0, new NewCoins().fairest());
        DUE.is("of one that needs no rounding", 0, priced(1, 1, 1, 5).fairest());
        NewCoins x = priced(1, 10, 1, 9);
        DUE.is("of one that is nearer above", 1, x.fairest());
        x.sold(0, 0);
        DUE.is("of one that is not SOLD", 0, x.fairest());
    }

    /** Term 2: "of all ways": the first, the last, and each GOOD alone, of 14. */
    private static void fairestOfAll() {
        for (int up = 0; up < 14; up++) {
            NewCoins x = new NewCoins();
            x.rate(1, 100);
            for (int i = 0; i < 14; i++) {
                x.good(i == up ? 99 : 1, i == up ? 2 : 3);
            }
            // 13 down at -3 and one up at 2; with another one up it would be 63
            DUE.is("GOOD " + up + " alone", 1 << up, x.fairest());
            DUE.is("its GAINS", -37, x.gains(1 << up));
        }
        NewCoins last = new NewCoins();
        NewCoins first = new NewCoins();
        last.rate(1, 100);
        first.rate(1, 100);
        for (int i = 0; i < 14; i++) {
            last.good(99, 1);
            first.good(1, 1);
        }
        DUE.is("all by RULE 1", (1 << 14) - 1, last.fairest());
        DUE.is("all by RULE 0", 0, first.fairest());
    }

    /** Term 2: "nearest to 0 (with a sign or without)". */
    private static void fairestWithASignOrWithout() {
        NewCoins x = priced(1, 10, 1, 4);
        DUE.is("-4 against 6", 0, x.fairest());
        x = priced(1, 10, 1, 6);
        DUE.is("-6 against 4", 1, x.fairest());
        x = priced(1, 10, 1, 5);
        DUE.is("-5 against 5: the least bits", 0, x.fairest());
        x.good(5, 3);
        // -20, -10, 10, 20
        DUE.is("-10 against 10: the least bits", 1, x.fairest());
        x.sold(0, 3);
        x.sold(1, 1);
        // -20, 10, -10, 20
        DUE.is("10 against -10: the least bits", 1, x.fairest());
    }

    /** Term 2: "of several that whose bits, as a number, are least (bit g: by RULE 1)". */
    private static void fairestOfSeveral() {
        NewCoins x = new NewCoins();
        x.rate(1, 2);
        for (int i = 0; i < 14; i++) {
            x.good(1, 1);
        }
        // each is -1 or 1: any seven by RULE 1 make nothing
        DUE.is("the seven of the least bits", (1 << 7) - 1, x.fairest());
        x.sold(0, 7);
        for (int i = 8; i < 14; i++) {
            x.sold(i, 0);
        }
        // 7 against seven of 1: bit 0 alone, or bits 1 to 7
        DUE.is("one against seven", 1, x.fairest());
        x.sold(0, 0);
        x.sold(8, 7);
        // now bits 1 to 7, or bit 8 alone, which is more
        DUE.is("seven against one", 254, x.fairest());
        x.sold(7, 0);
        x.sold(8, 0);
        x.sold(13, 6);
        DUE.is("six against the last one", 126, x.fairest());
    }

    /** Promise 10: "those of GOODS that are none count for nothing". */
    private static void gainsOfBitsBeyond() {
        long[] due = new long[4];
        for (int way = 0; way < 4; way++) {
            due[way] = rich().gains(way);
        }
        DUE.is("gains 0 is gain by RULE 0", rich().gain(0), due[0]);
        DUE.is("gains 1", 40 * 10 - 25 * 20, due[1]);
        DUE.is("gains 2", -20 * 10 + 35 * 20, due[2]);
        DUE.is("gains 3 is gain by RULE 1", rich().gain(1), due[3]);
        for (int way = 0; way < 4; way++) {
            for (int more : new int[] {4, 1 << 13, 1 << 14, 1 << 30, LEAST, -4, GREATEST - 3}) {
                int bits = way | more;
                RICH.is("gains " + bits, due[way], x -> x.gains(bits));
            }
        }
        NewCoins x = full();
        DUE.is("bit 14 of 14 GOODS", x.gains(0), x.gains(1 << 14));
        DUE.is("all bits", x.gain(1), x.gains(-1));
        DUE.is("all bits but those of GOODS", x.gain(0), x.gains(-1 << 14));
        // GOOD 13: 245 PARTS, down 244, up 248, SOLD 14 times
        DUE.is("bit 13 of 14 GOODS", x.gain(0) + 4 * 14, x.gains(1 << 13));
    }

    /** Promise 25: "what 0: COINS; 10 .. 17: the value of COIN what - 10. NONE: there is none such". */
    private static void aboutSystems() {
        int[] newValues = {1, 2, 5, 10, 20, 50, 100, 200};
        NewCoins x = full();
        NewCoins y = rich();
        for (int system = 0; system <= 1; system++) {
            int of = system;
            DUE.is("COINS of a full SYSTEM", 8, x.about(system, 0));
            for (int i = 0; i < 8; i++) {
                int value = system == 0 ? 2 * newValues[i] : newValues[i];
                DUE.is("value of COIN " + i, value, x.about(system, 10 + i));
            }
            DUE.is("COINS of a SYSTEM", 3, y.about(system, 0));
            DUE.is("its last COIN", system == 0 ? 6 : 2, y.about(system, 12));
            RICH.is("beyond its last COIN", NONE, z -> z.about(of, 13));
            for (int what : new int[] {-1, 1, 4, 9, 18, 23, 30, LEAST, LEAST + 9, LEAST + 17, GREATEST}) {
                FULL.is("about " + system + " " + what, NONE, z -> z.about(of, what));
            }
        }
    }

    /** Promise 25: "For system 2, ..", "10 .. 23", "30 .. 43", "NONE for others". */
    private static void aboutTheLand() {
        NewCoins x = full();
        int[] due = {14, 4, 5, 4, 1};
        for (int what = 0; what < 5; what++) {
            DUE.is("about 2 " + what, due[what], x.about(2, what));
        }
        for (int good = 0; good < 14; good++) {
            DUE.is("PRICE of GOOD " + good, 10 + 3 * good, x.about(2, 10 + good));
            DUE.is("SOLD of GOOD " + good, 1 + good, x.about(2, 30 + good));
        }
        int[] others = {-1, 5, 9, 24, 29, 44, 50, LEAST, LEAST + 10, LEAST + 29, LEAST + 30, GREATEST};
        for (int what : others) {
            FULL.is("about 2 " + what, NONE, z -> z.about(2, what));
        }
        for (int what : new int[] {12, 23, 32, 43}) {
            RICH.is("about 2 " + what, NONE, z -> z.about(2, what));
        }
        NewCoins y = rich();
        DUE.is("PRICE of the last GOOD", 77, y.about(2, 11));
        DUE.is("SOLD of the last GOOD", 20, y.about(2, 31));
    }

    /** Promise 25: "there is none such", of a SYSTEM. */
    private static void aboutNoSystem() {
        for (int system : new int[] {-1, 3, LEAST, GREATEST}) {
            for (int what : new int[] {0, 1, 4, 10, 30}) {
                FULL.is("about " + system + " " + what, NONE, x -> x.about(system, what));
            }
        }
    }
}
