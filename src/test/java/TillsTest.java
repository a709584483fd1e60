/**
 * Promises 14 (till), 15 (put), 16 (sale), 17 (given), 18 (tell), 19 (has), 20 (draw) and
 * 21 (drawn).
 */
public final class TillsTest {
    private static final int NONE = NewCoins.NONE;
    private static final int OLD = 0;
    private static final int NEW = 1;
    private static final int[] NOT_THERE = {-1, 5, 8, Integer.MIN_VALUE, Integer.MAX_VALUE};
    private static final Due DUE = new Due();

    public static void main(String[] args) {
        tills();
        puts();
        putsOfWhatIsNot();
        saleWithScraps();
        saleOfWhatIsNot();
        salesRefused();
        refusedChangesNothing();
        changeOfWhatWasPaid();
        limitedChange();
        changeOfTies();
        edgesOfSales();
        moreThanATillHolds();
        givenAfterSales();
        tells();
        draws();
        againstAllRows();
        DUE.end();
    }

    /** RATE 5 to 12; COINS of OLD 12 and 6; COINS of NEW 1, 5 and 2; one TILL. */
    private static NewCoins land() {
        NewCoins x = new NewCoins();
        x.rate(5, 12);
        x.coin(OLD, 12);
        x.coin(OLD, 6);
        x.coin(NEW, 1);
        x.coin(NEW, 5);
        x.coin(NEW, 2);
        x.till();
        return x;
    }

    private static void tills() {
        NewCoins x = new NewCoins();
        x.coin(OLD, 3);
        for (int t = 0; t < 4; t++) {
            DUE.is("no TILL yet", NONE, x.has(t, OLD, 0));
            DUE.is("till " + t, t, x.till());
            DUE.is("it has nothing", 0, x.has(t, OLD, 0));
            x.put(t, OLD, 0, 10 + t);
        }
        DUE.is("a fifth TILL", NONE, x.till());
        DUE.is("TILLS", 4, x.about(2, 1));
        for (int t = 0; t < 4; t++) {
            DUE.is("each has its own", 10 + t, x.has(t, OLD, 0));
        }
    }

    private static void puts() {
        NewCoins x = land();
        DUE.is("put none", 0, x.put(0, NEW, 0, 0));
        DUE.is("put the most", 1000, x.put(0, NEW, 0, 1000));
        DUE.is("put one more", NONE, x.put(0, NEW, 0, 1));
        DUE.is("put the greatest number", NONE, x.put(0, NEW, 0, Integer.MAX_VALUE));
        DUE.is("put the least number", NONE, x.put(0, NEW, 0, Integer.MIN_VALUE));
        DUE.is("it has as many", 1000, x.has(0, NEW, 0));
        DUE.is("take some", 400, x.put(0, NEW, 0, -600));
        DUE.is("take too many", NONE, x.put(0, NEW, 0, -401));
        DUE.is("take all", 0, x.put(0, NEW, 0, -400));
        DUE.is("take one of none", NONE, x.put(0, NEW, 0, -1));
        DUE.is("too many at once", NONE, x.put(0, NEW, 0, 1001));
        DUE.is("the same number of the other SYSTEM", 7, x.put(0, OLD, 0, 7));
        DUE.is("NEW has none", 0, x.has(0, NEW, 0));
        DUE.is("OLD has them", 7, x.has(0, OLD, 0));
        DUE.is("some more", 9, x.put(0, OLD, 0, 2));
    }

    private static void putsOfWhatIsNot() {
        NewCoins x = land();
        for (int no : NOT_THERE) {
            DUE.is("put in TILL " + no, NONE, x.put(no, NEW, 0, 1));
            DUE.is("put of SYSTEM " + no, NONE, x.put(0, no, 0, 1));
            DUE.is("put of COIN " + no, NONE, x.put(0, NEW, no, 1));
            DUE.is("has of TILL " + no, NONE, x.has(no, NEW, 0));
            DUE.is("has of SYSTEM " + no, NONE, x.has(0, no, 0));
            DUE.is("has of COIN " + no, NONE, x.has(0, NEW, no));
        }
        DUE.is("put of no SYSTEM 2", NONE, x.put(0, 2, 0, 1));
        DUE.is("put in no TILL 1", NONE, x.put(1, NEW, 0, 1));
        DUE.is("NEW has COIN 2", 1, x.put(0, NEW, 2, 1));
        DUE.is("OLD has no COIN 2", NONE, x.put(0, OLD, 2, 1));
        DUE.is("OLD has no COIN 2 to tell of", NONE, x.has(0, OLD, 2));
        DUE.is("has of no SYSTEM 2", NONE, x.has(0, 2, 0));
    }

    private static void saleWithScraps() {
        NewCoins x = land();
        x.put(0, NEW, 0, 3);
        x.put(0, NEW, 2, 3);
        // 3 of 6 UNITS of OLD: 90 PARTS; less 3 UNITS of NEW: 54 PARTS; 4 UNITS and 6 PARTS
        DUE.is("sale", 4, x.sale(0, 3, OLD, 1, 3));
        DUE.is("SCRAPS", 6, x.tell(0, 1));
        DUE.is("what was paid", 3, x.has(0, OLD, 1));
        DUE.is("not the other COIN", 0, x.has(0, OLD, 0));
        DUE.is("given of 2", 2, x.given(0, 2));
        DUE.is("given of 1", 0, x.given(0, 0));
        DUE.is("left of 2", 1, x.has(0, NEW, 2));
        DUE.is("left of 1", 3, x.has(0, NEW, 0));
        // 30 PARTS, less 12: one UNIT and 6 PARTS
        DUE.is("one more", 1, x.sale(0, 1, OLD, 1, 1));
        DUE.is("SCRAPS of both", 12, x.tell(0, 1));
        // 30 PARTS, less 24: no UNIT, 6 PARTS
        DUE.is("no whole UNIT to give", 0, x.sale(0, 2, OLD, 1, 1));
        DUE.is("SCRAPS of all three", 18, x.tell(0, 1));
        DUE.is("nothing given then", 0, x.given(0, 0));
        DUE.is("SALES", 3, x.tell(0, 0));
    }

    private static void saleOfWhatIsNot() {
        NewCoins x = land();
        x.put(0, NEW, 0, 100);
        for (int no : NOT_THERE) {
            DUE.is("sale at TILL " + no, NONE, x.sale(no, 5, NEW, 1, 1));
            DUE.is("sale by SYSTEM " + no, NONE, x.sale(0, 5, no, 1, 1));
            DUE.is("sale by COIN " + no, NONE, x.sale(0, 5, NEW, no, 1));
        }
        DUE.is("sale at no TILL 1", NONE, x.sale(1, 5, NEW, 1, 1));
        DUE.is("sale by no SYSTEM 2", NONE, x.sale(0, 5, 2, 1, 1));
        DUE.is("sale by no COIN 2 of OLD", NONE, x.sale(0, 1, OLD, 2, 50));
        for (int price : new int[] {0, -1, 2001, Integer.MIN_VALUE, Integer.MAX_VALUE}) {
            DUE.is("sale at the price " + price, NONE, x.sale(0, price, NEW, 1, 50));
        }
        for (int n : new int[] {0, -1, 51, Integer.MIN_VALUE, Integer.MAX_VALUE}) {
            DUE.is("sale by " + n + " COINS", NONE, x.sale(0, 5, NEW, 1, n));
        }
        DUE.is("no SALE was", 0, x.tell(0, 0));
        DUE.is("nothing was given", NONE, x.given(0, 0));
    }

    private static void salesRefused() {
        NewCoins x = land();
        DUE.is("5 is less than 6", NONE, x.sale(0, 6, NEW, 1, 1));
        DUE.is("5 is enough for 5", 0, x.sale(0, 5, NEW, 1, 1));
        // 30 PARTS against 36, and 60 against 60
        DUE.is("less by half a UNIT", NONE, x.sale(0, 3, OLD, 1, 1));
        DUE.is("just enough", 0, x.sale(0, 5, OLD, 1, 2));
        DUE.is("no COINS for 1", NONE, x.sale(0, 4, NEW, 1, 1));
        x.put(0, NEW, 2, 1);
        DUE.is("2 does not make 1", NONE, x.sale(0, 4, NEW, 1, 1));
        x.put(0, NEW, 0, 1);
        DUE.is("1 does", 1, x.sale(0, 4, NEW, 1, 1));
        DUE.is("no second one", NONE, x.sale(0, 4, NEW, 1, 1));
    }

    private static void refusedChangesNothing() {
        NewCoins x = land();
        x.put(0, NEW, 2, 4);
        DUE.is("a SALE with CHANGE", 4, x.sale(0, 1, NEW, 1, 1));
        DUE.is("none for 1", NONE, x.sale(0, 4, NEW, 1, 1));
        DUE.is("none for 1, by OLD", NONE, x.sale(0, 4, OLD, 0, 1));
        DUE.is("too little", NONE, x.sale(0, 7, NEW, 1, 1));
        DUE.is("SALES", 1, x.tell(0, 0));
        DUE.is("SCRAPS", 0, x.tell(0, 1));
        DUE.is("PARTS of prices", 12, x.tell(0, 4));
        DUE.is("fives", 1, x.has(0, NEW, 1));
        DUE.is("twos", 2, x.has(0, NEW, 2));
        DUE.is("OLD", 0, x.has(0, OLD, 0));
        DUE.is("given stays", 2, x.given(0, 2));
    }

    private static void changeOfWhatWasPaid() {
        NewCoins x = land();
        DUE.is("of seven ones, two come back", 2, x.sale(0, 5, NEW, 0, 7));
        DUE.is("two of them", 2, x.given(0, 0));
        DUE.is("five stay", 5, x.has(0, NEW, 0));
        DUE.is("OLD ones do not come back", NONE, x.sale(0, 1, OLD, 0, 50));
        x.put(0, NEW, 1, 50);
        DUE.is("no OLD one is given", 245, x.sale(0, 5, OLD, 0, 50));
        DUE.is("all in fives", 49, x.given(0, 1));
        DUE.is("all of OLD stay", 50, x.has(0, OLD, 0));
    }

    private static void limitedChange() {
        NewCoins x = new NewCoins();
        x.coin(NEW, 20);
        x.coin(NEW, 6);
        x.coin(NEW, 10);
        x.coin(NEW, 1);
        x.till();
        x.put(0, NEW, 1, 3);
        x.put(0, NEW, 2, 1);
        x.put(0, NEW, 3, 1);
        DUE.is("18 in three sixes, as ones are few", 18, x.sale(0, 2, NEW, 0, 1));
        DUE.is("tens", 0, x.given(0, 2));
        DUE.is("sixes", 3, x.given(0, 1));
        DUE.is("18 no more", NONE, x.sale(0, 2, NEW, 0, 1));
        DUE.is("11", 11, x.sale(0, 9, NEW, 0, 1));
        x.put(0, NEW, 1, 2);
        x.put(0, NEW, 3, 8);
        x.put(0, NEW, 2, 1);
        DUE.is("18 in 10, 6, 1 and 1", 18, x.sale(0, 2, NEW, 0, 1));
        DUE.is("one ten", 1, x.given(0, 2));
        DUE.is("one six", 1, x.given(0, 1));
        DUE.is("two ones", 2, x.given(0, 3));
        DUE.is("18 with one six and six ones", NONE, x.sale(0, 2, NEW, 0, 1));
        DUE.is("12 in that", 12, x.sale(0, 8, NEW, 0, 1));
        DUE.is("six ones", 6, x.given(0, 3));
    }

    private static void changeOfTies() {
        // 15 in three: 9 + 5 + 1, 9 + 3 + 3, 5 + 5 + 5
        int[] values = {5, 1, 9, 3, 16};
        int[][] rows = {{1, 1, 1, 0}, {0, 0, 1, 2}, {3, 0, 0, 0}};
        NewCoins x = new NewCoins();
        for (int value : values) {
            x.coin(NEW, value);
        }
        x.till();
        x.till();
        x.till();
        for (int coin = 0; coin < 4; coin++) {
            x.put(0, NEW, coin, 9);
            x.put(1, NEW, coin, coin == 1 ? 0 : 9);
            x.put(2, NEW, coin, coin == 2 ? 0 : 9);
        }
        for (int till = 0; till < 3; till++) {
            DUE.is("15", 15, x.sale(till, 1, NEW, 4, 1));
            for (int coin = 0; coin < 4; coin++) {
                String call = "tie at TILL " + till + ", COIN " + coin;
                DUE.is(call, rows[till][coin], x.given(till, coin));
            }
        }
    }

    private static void edgesOfSales() {
        NewCoins x = new NewCoins();
        x.coin(NEW, 1000);
        x.coin(NEW, 1);
        x.coin(NEW, 667);
        x.till();
        DUE.is("the greatest price", 0, x.sale(0, 2000, NEW, 0, 2));
        DUE.is("above it", NONE, x.sale(0, 2001, NEW, 0, 3));
        DUE.is("less than it", NONE, x.sale(0, 2000, NEW, 0, 1));
        DUE.is("the greatest CHANGE", 2000, x.sale(0, 1000, NEW, 0, 3));
        DUE.is("in two COINS", 2, x.given(0, 0));
        x.put(0, NEW, 1, 1);
        x.put(0, NEW, 0, 10);
        // 2001 = 1000 + 1000 + 1 could be given, but is too much
        DUE.is("CHANGE above 2000", NONE, x.sale(0, 999, NEW, 0, 3));
        DUE.is("2000 by three of 667", 2000, x.sale(0, 1, NEW, 2, 3));
        DUE.is("the most COINS", NONE, x.sale(0, 1, NEW, 1, 51));
        DUE.is("50 COINS", 0, x.sale(0, 50, NEW, 1, 50));
        DUE.is("the least price", 0, x.sale(0, 1, NEW, 1, 1));
    }

    private static void moreThanATillHolds() {
        NewCoins x = land();
        x.put(0, OLD, 0, 999);
        DUE.is("one too many", NONE, x.sale(0, 10, OLD, 0, 2));
        DUE.is("the last that it holds", 0, x.sale(0, 5, OLD, 0, 1));
        DUE.is("it is full of them", 1000, x.has(0, OLD, 0));
        DUE.is("one too many again", NONE, x.sale(0, 5, OLD, 0, 1));
        x.put(0, NEW, 0, 990);
        DUE.is("to the full", 0, x.sale(0, 10, NEW, 0, 10));
        DUE.is("above 1000", NONE, x.sale(0, 1, NEW, 0, 1));
        x.put(0, NEW, 0, -1);
        DUE.is("above 1000 as they come in, though one would go", NONE, x.sale(0, 1, NEW, 0, 2));
        DUE.is("as many as before", 999, x.has(0, NEW, 0));
        DUE.is("the other COINS may come", 0, x.sale(0, 5, NEW, 1, 1));
    }

    private static void givenAfterSales() {
        NewCoins x = land();
        x.till();
        x.put(0, NEW, 0, 5);
        DUE.is("no SALE yet", NONE, x.given(0, 0));
        x.sale(0, 4, NEW, 1, 1);
        DUE.is("one of 1", 1, x.given(0, 0));
        DUE.is("none at the other TILL", NONE, x.given(1, 0));
        x.sale(0, 3, NEW, 1, 1);
        DUE.is("of the latest alone", 2, x.given(0, 0));
        x.coin(NEW, 50);
        DUE.is("of a COIN that came later", 0, x.given(0, 3));
        x.put(0, NEW, 0, 4);
        x.draw(0);
        DUE.is("put and draw are no SALES", 2, x.given(0, 0));
        for (int no : NOT_THERE) {
            DUE.is("given at TILL " + no, NONE, x.given(no, 0));
            DUE.is("given of COIN " + no, NONE, x.given(0, no));
        }
        DUE.is("given of no COIN 4", NONE, x.given(0, 4));
        DUE.is("given at no TILL 2", NONE, x.given(2, 0));
        x.sale(0, 5, NEW, 1, 1);
        DUE.is("a SALE without CHANGE", 0, x.given(0, 0));
    }

    private static void tells() {
        NewCoins x = land();
        x.till();
        for (int what = 0; what <= 5; what++) {
            DUE.is("tell of an empty TILL " + what, 0, x.tell(1, what));
        }
        x.put(1, OLD, 0, 3);
        x.put(1, OLD, 1, 1);
        x.put(1, NEW, 1, 2);
        DUE.is("PARTS of OLD", (36 + 6) * 5, x.tell(1, 3));
        DUE.is("PARTS of all", (36 + 6) * 5 + 10 * 12, x.tell(1, 2));
        x.rate(100, 7);
        DUE.is("PARTS of OLD at another rate", 42 * 100, x.tell(1, 3));
        DUE.is("PARTS of all at another rate", 42 * 100 + 10 * 7, x.tell(1, 2));
        x.sale(1, 3, NEW, 1, 1);
        DUE.is("the CHANGE was not there", 0, x.tell(1, 0));
        x.sale(1, 10, NEW, 1, 2);
        x.sale(1, 5, NEW, 1, 1);
        x.expect(1, 1, NEW, 1, 1);
        DUE.is("SALES", 2, x.tell(1, 0));
        DUE.is("PARTS of all NEW PRICES", 15 * 7, x.tell(1, 4));
        DUE.is("EXPECTED SALES", 1, x.tell(1, 5));
        DUE.is("SALES of the other TILL", 0, x.tell(0, 0));
        for (int what : new int[] {-1, 6, 7, Integer.MIN_VALUE, Integer.MAX_VALUE}) {
            DUE.is("tell " + what, -1, x.tell(1, what));
        }
        for (int no : NOT_THERE) {
            DUE.is("tell of TILL " + no, -1, x.tell(no, 0));
        }
        DUE.is("tell of no TILL 2", -1, x.tell(2, 0));
        greatestTells();
    }

    private static void greatestTells() {
        NewCoins x = new NewCoins();
        x.rate(100, 100);
        x.till();
        long units = 0;
        for (int i = 0; i < 8; i++) {
            x.coin(OLD, 1000 - i);
            x.coin(NEW, 1000 - i);
            x.put(0, OLD, i, 1000);
            x.put(0, NEW, i, 1000);
            units += 1000L * (1000 - i);
        }
        DUE.is("PARTS of a full TILL", 2 * 100 * units, x.tell(0, 2));
        DUE.is("PARTS of its OLD ones", 100 * units, x.tell(0, 3));
        DUE.is("all drawn in", 100 * units, x.draw(0));
        DUE.is("PARTS of the rest", 100 * units, x.tell(0, 2));
    }

    private static void draws() {
        NewCoins x = land();
        x.till();
        DUE.is("nothing to draw", 0, x.draw(0));
        DUE.is("none drawn", 0, x.drawn(0));
        x.put(0, OLD, 0, 4);
        x.put(0, OLD, 1, 1);
        x.put(0, NEW, 0, 9);
        x.put(1, OLD, 1, 7);
        DUE.is("draw", (48 + 6) * 5, x.draw(0));
        DUE.is("none is left", 0, x.has(0, OLD, 0));
        DUE.is("none of the other", 0, x.has(0, OLD, 1));
        DUE.is("NEW ones stay", 9, x.has(0, NEW, 0));
        DUE.is("the other TILL has its own", 7, x.has(1, OLD, 1));
        DUE.is("drawn", 4, x.drawn(0));
        DUE.is("drawn of the other", 1, x.drawn(1));
        DUE.is("draw again", 0, x.draw(0));
        DUE.is("draw from the other TILL", 42 * 5, x.draw(1));
        DUE.is("drawn from all TILLS", 8, x.drawn(1));
        for (int i = 0; i < 3; i++) {
            x.put(0, OLD, 0, 1000);
            x.draw(0);
        }
        DUE.is("drawn above 1000", 3004, x.drawn(0));
        for (int no : NOT_THERE) {
            DUE.is("draw from TILL " + no, -1, x.draw(no));
            DUE.is("drawn of COIN " + no, NONE, x.drawn(no));
        }
        DUE.is("draw from no TILL 2", -1, x.draw(2));
        DUE.is("drawn of no COIN 2 of OLD", NONE, x.drawn(2));
        x.coin(OLD, 100);
        DUE.is("drawn of a COIN that came later", 0, x.drawn(2));
    }

    /** SALES at TILLS with few COINS, each against a walk through all rows. */
    private static void againstAllRows() {
        java.util.Random random = new java.util.Random(13);
        for (int run = 0; run < 1500; run++) {
            NewCoins x = new NewCoins();
            int coins = 2 + random.nextInt(7);
            for (int i = 0; i < coins; i++) {
                x.coin(NEW, 1 + random.nextInt(16));
            }
            coins = x.about(NEW, 0);
            int[] values = new int[coins];
            int[] limits = new int[coins];
            x.till();
            for (int i = 0; i < coins; i++) {
                values[i] = x.about(NEW, 10 + i);
                limits[i] = x.put(0, NEW, i, random.nextInt(5));
            }
            int paid = random.nextInt(coins);
            int n = 1 + random.nextInt(5);
            int price = 1 + random.nextInt(n * values[paid]);
            limits[paid] += n;
            int change = n * values[paid] - price;
            int[] best = AllRows.best(values, limits, change);
            DUE.is("run " + run, best == null ? NONE : change, x.sale(0, price, NEW, paid, n));
            for (int i = 0; i < coins; i++) {
                int had = limits[i] - (i == paid ? n : 0);
                DUE.is("run " + run + " given", best == null ? NONE : best[i], x.given(0, i));
                DUE.is("run " + run + " has", best == null ? had : limits[i] - best[i],
                        x.has(0, NEW, i));
            }
        }
    }
}
