/** Promises 1 (a new object), 2 (coin), 3 (rate), 6 (step) and 25 (about). */
public final class SystemsTest {
    private static final int NONE = NewCoins.NONE;
    private static final int[] NO_SYSTEMS = {-1, 2, 3, Integer.MIN_VALUE, Integer.MAX_VALUE};
    private static final Due DUE = new Due();

    public static void main(String[] args) {
        DUE.is("NONE", -1, NewCoins.NONE);
        newObject();
        coinNumbersAndValues();
        coinsAreFull();
        rates();
        rateAfterSale();
        steps();
        aboutSystems();
        aboutLand();
        DUE.end();
    }

    private static void newObject() {
        NewCoins x = new NewCoins();
        DUE.is("new: COINS of OLD", 0, x.about(0, 0));
        DUE.is("new: COINS of NEW", 0, x.about(1, 0));
        DUE.is("new: GOODS", 0, x.about(2, 0));
        DUE.is("new: TILLS", 0, x.about(2, 1));
        DUE.is("new: a", 1, x.about(2, 2));
        DUE.is("new: b", 1, x.about(2, 3));
        DUE.is("new: STEP", 1, x.about(2, 4));
        for (int k = -1; k <= 3; k++) {
            DUE.is("new: again " + k, false, x.again(k));
        }
        DUE.is("new: first COIN of OLD", NONE, x.about(0, 10));
        DUE.is("new: first GOOD", NONE, x.about(2, 10));
        DUE.is("new: SOLD of first GOOD", NONE, x.about(2, 30));
        DUE.is("new: tell", -1, x.tell(0, 0));
        DUE.is("new: draw", -1, x.draw(0));
        DUE.is("new: drawn", NONE, x.drawn(0));
        DUE.is("new: forget", false, x.forget(0));
        DUE.is("new: wanted", NONE, x.wanted(0, 0));
        DUE.is("new: fairest", 0, x.fairest());
        DUE.is("new: gain", 0, x.gain(1));
        DUE.is("new: gains", 0, x.gains(-1));
    }

    private static void coinNumbersAndValues() {
        NewCoins x = new NewCoins();
        for (int system : NO_SYSTEMS) {
            DUE.is("coin of no SYSTEM " + system, NONE, x.coin(system, 5));
        }
        for (int value : new int[] {0, -1, 1001, Integer.MIN_VALUE, Integer.MAX_VALUE}) {
            DUE.is("coin of OLD of value " + value, NONE, x.coin(0, value));
            DUE.is("coin of NEW of value " + value, NONE, x.coin(1, value));
        }
        DUE.is("no COIN came", 0, x.about(0, 0));
        DUE.is("coin of the greatest value", 0, x.coin(0, 1000));
        DUE.is("coin of the least value", 1, x.coin(0, 1));
        DUE.is("coin of a value that there is", NONE, x.coin(0, 1000));
        DUE.is("coin of the latest value", NONE, x.coin(0, 1));
        DUE.is("COINS of OLD", 2, x.about(0, 0));
        DUE.is("the other SYSTEM numbers its own", 0, x.coin(1, 1));
        DUE.is("the other SYSTEM may have the same value", 1, x.coin(1, 1000));
        DUE.is("the next one", 2, x.coin(0, 999));
    }

    private static void coinsAreFull() {
        for (int system = 0; system <= 1; system++) {
            NewCoins x = new NewCoins();
            for (int i = 0; i < 8; i++) {
                DUE.is("coin " + i, i, x.coin(system, 100 - i));
            }
            DUE.is("a ninth COIN", NONE, x.coin(system, 1));
            DUE.is("COINS of a full SYSTEM", 8, x.about(system, 0));
            DUE.is("the other SYSTEM is not full", 0, x.coin(1 - system, 1));
            DUE.is("value of the last one", 93, x.about(system, 17));
        }
    }

    private static void rates() {
        NewCoins x = new NewCoins();
        DUE.is("the least rate", true, x.rate(1, 1));
        DUE.is("the greatest rate", true, x.rate(100, 100));
        int[][] wrong = {
            {0, 5}, {5, 0}, {101, 5}, {5, 101}, {-1, 5}, {5, -1},
            {Integer.MIN_VALUE, 1}, {1, Integer.MAX_VALUE}
        };
        for (int[] r : wrong) {
            DUE.is("rate " + r[0] + " " + r[1], false, x.rate(r[0], r[1]));
            DUE.is("a stays", 100, x.about(2, 2));
            DUE.is("b stays", 100, x.about(2, 3));
        }
        DUE.is("rate 1 100", true, x.rate(1, 100));
        DUE.is("a is the first", 1, x.about(2, 2));
        DUE.is("b is the second", 100, x.about(2, 3));
    }

    private static void rateAfterSale() {
        NewCoins x = new NewCoins();
        x.coin(1, 5);
        x.till();
        x.till();
        x.put(1, 1, 0, 5);
        x.expect(1, 5, 1, 0, 1);
        DUE.is("a refused SALE", NONE, x.sale(1, 6, 1, 0, 1));
        DUE.is("rate after a refused SALE", true, x.rate(3, 7));
        x.image(0);
        DUE.is("a SALE at the second TILL", 0, x.sale(1, 5, 1, 0, 1));
        DUE.is("rate after a SALE", false, x.rate(3, 8));
        DUE.is("the same rate after a SALE", false, x.rate(3, 7));
        DUE.is("b after that", 7, x.about(2, 3));
        DUE.is("ahead of the SALE", true, x.again(0));
        DUE.is("rate ahead of the SALE", true, x.rate(3, 8));
        DUE.is("b then", 8, x.about(2, 3));
        for (int till = 0; till < 4; till++) {
            NewCoins y = new NewCoins();
            y.coin(1, 5);
            for (int i = 0; i < 4; i++) {
                y.till();
            }
            DUE.is("rate with four TILLS", true, y.rate(2, 2));
            y.sale(till, 5, 1, 0, 1);
            DUE.is("rate after a SALE at TILL " + till, false, y.rate(3, 3));
        }
    }

    private static void steps() {
        NewCoins x = new NewCoins();
        DUE.is("the greatest STEP", true, x.step(100));
        for (int step : new int[] {0, -1, 101, Integer.MIN_VALUE, Integer.MAX_VALUE}) {
            DUE.is("step " + step, false, x.step(step));
            DUE.is("STEP stays", 100, x.about(2, 4));
        }
        DUE.is("the least STEP", true, x.step(1));
        DUE.is("STEP is that", 1, x.about(2, 4));
    }

    private static void aboutSystems() {
        NewCoins x = new NewCoins();
        x.coin(0, 240);
        x.coin(0, 12);
        x.coin(1, 50);
        DUE.is("COINS of OLD", 2, x.about(0, 0));
        DUE.is("COINS of NEW", 1, x.about(1, 0));
        DUE.is("value of COIN 0 of OLD", 240, x.about(0, 10));
        DUE.is("value of COIN 1 of OLD", 12, x.about(0, 11));
        DUE.is("value of no COIN of OLD", NONE, x.about(0, 12));
        DUE.is("value of COIN 0 of NEW", 50, x.about(1, 10));
        DUE.is("value of no COIN of NEW", NONE, x.about(1, 11));
        for (int what : new int[] {-1, 1, 2, 9, 18, 30, 1000, Integer.MIN_VALUE, Integer.MAX_VALUE}) {
            DUE.is("about OLD " + what, NONE, x.about(0, what));
            DUE.is("about NEW " + what, NONE, x.about(1, what));
        }
        for (int i = 2; i < 8; i++) {
            x.coin(0, i);
        }
        DUE.is("value of COIN 7 of OLD", 7, x.about(0, 17));
        DUE.is("beyond the most COINS", NONE, x.about(0, 18));
        for (int system : new int[] {-1, 3, Integer.MIN_VALUE, Integer.MAX_VALUE}) {
            DUE.is("about no SYSTEM " + system, NONE, x.about(system, 0));
        }
    }

    private static void aboutLand() {
        NewCoins x = new NewCoins();
        x.rate(5, 12);
        x.step(25);
        x.till();
        for (int g = 0; g < 14; g++) {
            DUE.is("SOLD of no GOOD", NONE, x.about(2, 30 + g));
            DUE.is("PRICE of no GOOD", NONE, x.about(2, 10 + g));
            x.good(100 + g, 50 + g);
            DUE.is("PRICE of a GOOD", 100 + g, x.about(2, 10 + g));
            DUE.is("SOLD of a GOOD", 50 + g, x.about(2, 30 + g));
            DUE.is("GOODS", g + 1, x.about(2, 0));
        }
        DUE.is("TILLS", 1, x.about(2, 1));
        DUE.is("a", 5, x.about(2, 2));
        DUE.is("b", 12, x.about(2, 3));
        DUE.is("STEP", 25, x.about(2, 4));
        int[] others = {-1, 5, 9, 24, 29, 44, 45, 1000, Integer.MIN_VALUE, Integer.MAX_VALUE};
        for (int what : others) {
            DUE.is("about the land " + what, NONE, x.about(2, what));
        }
    }
}
