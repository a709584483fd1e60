/** Lands for tests to begin with; each takes fewer than 150 calls. */
final class Scenes {
    private static final int OLD = 0;
    private static final int NEW = 1;

    private Scenes() {}

    /** A new object. */
    static void fresh(NewCoins x) {}

    /**
     * Some of everything, but no SALE yet: RATE 5 to 12; COINS of OLD 12, 30, 6; COINS of NEW 1, 7,
     * 2; two GOODS; two TILLS; images 0 and 2, each of another state, and no image 1.
     */
    static void open(NewCoins x) {
        x.image(0);
        x.rate(5, 12);
        x.coin(OLD, 12);
        x.coin(OLD, 30);
        x.coin(OLD, 6);
        x.coin(NEW, 1);
        x.coin(NEW, 7);
        x.coin(NEW, 2);
        x.good(100, 10);
        x.good(77, 20);
        x.till();
        x.till();
        x.put(0, OLD, 0, 9);
        x.put(0, NEW, 0, 90);
        x.put(1, OLD, 1, 3);
        x.put(1, NEW, 1, 50);
        x.draw(0);
        x.expect(0, 3, NEW, 1, 1);
        x.image(2);
        x.step(5);
        x.put(0, OLD, 2, 4);
        x.expect(0, 5, OLD, 0, 3);
        x.expect(1, 4, NEW, 1, 2);
    }

    /** The same after a SALE at each TILL, with CHANGE and SCRAPS. */
    static void rich(NewCoins x) {
        open(x);
        x.sale(0, 3, OLD, 1, 1);
        x.sale(1, 7, NEW, 1, 3);
    }

    /**
     * All that a land can have: 8 COINS in each SYSTEM (NEW: 1, 2, 5, 10, 20, 50, 100, 200; OLD:
     * those twice), 14 GOODS, 4 TILLS, three images; TILL 3 has 1000 of COIN 7 of each SYSTEM and 20
     * EXPECTED SALES; a SALE was at TILL 1.
     */
    static void full(NewCoins x) {
        int[] values = {1, 2, 5, 10, 20, 50, 100, 200};
        for (int k = 0; k < 3; k++) {
            x.rate(3 + k, 4);
            x.image(k);
        }
        for (int value : values) {
            x.coin(NEW, value);
            x.coin(OLD, 2 * value);
        }
        for (int good = 0; good < 14; good++) {
            x.good(10 + 3 * good, 1 + good);
        }
        for (int till = 0; till < 4; till++) {
            x.till();
        }
        x.put(1, NEW, 0, 9);
        x.sale(1, 3, NEW, 2, 1);
        x.put(3, OLD, 7, 1000);
        x.put(3, NEW, 7, 1000);
        for (int i = 0; i < 20; i++) {
            x.expect(3, 1 + i, NEW, 5, 1);
        }
    }
}
