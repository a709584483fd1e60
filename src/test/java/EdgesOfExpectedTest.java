/**
 * Each sentence that names a boundary in Term 5 and in promises 22 to 24: the number at the edge, the
 * number beyond it, and that a refused call changes nothing.
 */
public final class EdgesOfExpectedTest {
    private static final int NONE = NewCoins.NONE;
    private static final int OLD = 0;
    private static final int NEW = 1;
    private static final int LEAST = Integer.MIN_VALUE;
    private static final int GREATEST = Integer.MAX_VALUE;
    private static final Due DUE = new Due();
    private static final Refused RICH = new Refused(DUE, "rich", Scenes::rich);
    private static final Refused FULL = new Refused(DUE, "full", Scenes::full);

    public static void main(String[] args) {
        expectOfNone();
        expectOtherNumbers();
        expectUpToTwenty();
        expectWhatWouldBeRefused();
        forgetOfNone();
        forgetAll();
        wantedOfNone();
        wantedWithoutExpected();
        wantedWithoutFewest();
        wantedOfTheGreatestChange();
        wantedOfChangeBelow0();
        wantedOfWhatWasPaidAhead();
        wantedOfWhatWasGivenAway();
        wantedThoughTheTillHasSome();
        wantedByFewestAlone();
        wantedBeyondATill();
        DUE.end();
    }

    private static NewCoins rich() {
        NewCoins x = new NewCoins();
        Scenes.rich(x);
        return x;
    }

    /** COINS of NEW as told, one of OLD of 1000, one TILL, at 1 to 1. */
    private static NewCoins with(int... values) {
        NewCoins x = new NewCoins();
        x.coin(OLD, 1000);
        for (int value : values) {
            x.coin(NEW, value);
        }
        x.till();
        return x;
    }

    private static void wanted(String what, NewCoins x, int... due) {
        for (int coin = 0; coin < due.length; coin++) {
            DUE.is(what + ", COIN " + coin, due[coin], x.wanted(0, coin));
        }
    }

    /** Promise 22: "there is none such (of any)". */
    private static void expectOfNone() {
        for (int till : new int[] {-1, 2, 4, LEAST, GREATEST}) {
            RICH.is("expect at TILL " + till, NONE, x -> x.expect(till, 5, NEW, 1, 1));
        }
        for (int system : new int[] {-1, 2, 3, LEAST, GREATEST}) {
            RICH.is("expect by SYSTEM " + system, NONE, x -> x.expect(0, 5, system, 0, 1));
        }
        for (int coin : new int[] {-1, 3, 8, LEAST, GREATEST}) {
            RICH.is("expect by COIN " + coin + " of NEW", NONE, x -> x.expect(0, 5, NEW, coin, 1));
            RICH.is("expect by COIN " + coin + " of OLD", NONE, x -> x.expect(0, 5, OLD, coin, 1));
        }
        FULL.is("expect at TILL 4", NONE, x -> x.expect(4, 5, NEW, 1, 1));
        FULL.is("expect by COIN 8", NONE, x -> x.expect(0, 5, NEW, 8, 1));
        NewCoins x = new NewCoins();
        Scenes.full(x);
        DUE.is("expect by the last COIN", 1, x.expect(2, 5, NEW, 7, 1));
        DUE.is("expect by the last COIN of OLD", 2, x.expect(2, 5, OLD, 7, 1));
    }

    /** Promise 22: "other numbers"; Term 4: "1 .. 2000", "1 .. 50". */
    private static void expectOtherNumbers() {
        for (int price : new int[] {0, -1, 2001, LEAST, GREATEST}) {
            RICH.is("expect at " + price, NONE, x -> x.expect(0, price, NEW, 1, 50));
            RICH.is("expect at " + price + " by OLD", NONE, x -> x.expect(0, price, OLD, 1, 50));
        }
        for (int n : new int[] {0, -1, 51, LEAST, GREATEST}) {
            RICH.is("expect by " + n, NONE, x -> x.expect(0, 5, NEW, 1, n));
            RICH.is("expect by " + n + " of OLD", NONE, x -> x.expect(0, 5, OLD, 1, n));
        }
        int[][] edges = {{1, 1}, {1, 50}, {2000, 1}, {2000, 50}};
        for (int[] e : edges) {
            DUE.is("expect at " + e[0] + " by " + e[1], 3, rich().expect(0, e[0], NEW, 1, e[1]));
            DUE.is("the same by OLD", 2, rich().expect(1, e[0], OLD, 1, e[1]));
        }
    }

    /** Promise 22: "or there are 20"; Term 5: "at most 20 of a TILL". */
    private static void expectUpToTwenty() {
        NewCoins x = with(1);
        x.till();
        for (int i = 1; i <= 20; i++) {
            DUE.is("expect " + i, i, x.expect(0, 1000 - i, OLD, 0, 1));
        }
        wanted("all twenty count", x, 20 * 21 / 2);
        DUE.is("a 21st", NONE, x.expect(0, 999, OLD, 0, 1));
        wanted("a 21st does not", x, 20 * 21 / 2);
        DUE.is("EXPECTED SALES", 20, x.tell(0, 5));
        DUE.is("the other TILL has its own 20", 1, x.expect(1, 999, OLD, 0, 1));
        FULL.is("a 21st", NONE, y -> y.expect(3, 1, NEW, 5, 1));
        FULL.is("a 21st by OLD", NONE, y -> y.expect(3, 2000, OLD, 7, 50));
    }

    /** Promise 22 names no other NONE: what could be no SALE now may be EXPECTED. */
    private static void expectWhatWouldBeRefused() {
        NewCoins x = rich();
        DUE.is("less than the price", 3, x.expect(0, 2000, NEW, 0, 1));
        DUE.is("CHANGE above 2000", 4, x.expect(0, 1, OLD, 1, 50));
        NewCoins y = new NewCoins();
        Scenes.full(y);
        DUE.is("where 1000 are", NONE, y.sale(3, 200, NEW, 7, 1));
        y.forget(3);
        DUE.is("where 1000 are, EXPECTED", 1, y.expect(3, 200, NEW, 7, 1));
        DUE.is("no COIN comes by that", 1000, y.has(3, NEW, 7));
    }

    /** Promise 23: "false if there is none such". */
    private static void forgetOfNone() {
        for (int till : new int[] {-1, 2, 3, 4, LEAST, GREATEST}) {
            RICH.is("forget " + till, false, x -> x.forget(till));
        }
        FULL.is("forget 4", false, x -> x.forget(4));
        FULL.is("forget where nothing is EXPECTED", true, x -> x.forget(2));
    }

    /** Promise 23: "EXPECTS nothing any more", from one, and from 20. */
    private static void forgetAll() {
        NewCoins x = new NewCoins();
        Scenes.full(x);
        DUE.is("expect of one more TILL", 1, x.expect(0, 1, NEW, 0, 1));
        DUE.is("forget 3", true, x.forget(3));
        DUE.is("nothing is EXPECTED", 0, x.tell(3, 5));
        DUE.is("nothing is WANTED", 0, x.wanted(3, 0));
        DUE.is("the other TILL stays", 1, x.tell(0, 5));
        for (int i = 1; i <= 20; i++) {
            DUE.is("room for 20 again", i, x.expect(3, 50, NEW, 5, 1));
        }
        DUE.is("and no more", NONE, x.expect(3, 50, NEW, 5, 1));
        DUE.is("only what came since", 0, x.wanted(3, 0));
    }

    /** Promise 24: "or there is none such (of either)". */
    private static void wantedOfNone() {
        for (int till : new int[] {-1, 2, 4, LEAST, GREATEST}) {
            RICH.is("wanted for TILL " + till, NONE, x -> x.wanted(till, 0));
        }
        for (int coin : new int[] {-1, 3, 8, LEAST, GREATEST}) {
            RICH.is("wanted of COIN " + coin, NONE, x -> x.wanted(0, coin));
        }
        FULL.is("wanted for TILL 4", NONE, x -> x.wanted(4, 0));
        FULL.is("wanted of COIN 8", NONE, x -> x.wanted(3, 8));
        FULL.is("wanted of COIN 7", 0, x -> x.wanted(3, 7));
        // 49, 48 .. 30 are each given with two twenties, but for 39 .. 30, with one
        FULL.is("wanted of COIN 4", 30, x -> x.wanted(3, 4));
    }

    /** Term 5 where nothing is EXPECTED. */
    private static void wantedWithoutExpected() {
        wanted("nothing is EXPECTED", with(1, 5), 0, 0);
        NewCoins x = with(1, 5);
        x.expect(0, 1000, OLD, 0, 1);
        wanted("a CHANGE of 0", x, 0, 0);
        NewCoins y = with();
        y.expect(0, 1000, OLD, 0, 1);
        DUE.is("no COIN of NEW", NONE, y.wanted(0, 0));
    }

    /** Term 5: "None is WANTED if some CHANGE has no FEWEST". */
    private static void wantedWithoutFewest() {
        int[][] due = {{2, 1}, {3, NONE}, {4, 2}, {5, 0}, {1, NONE}, {7, 1}};
        for (int[] d : due) {
            NewCoins x = with(2, 5);
            x.expect(0, 1000 - d[0], OLD, 0, 1);
            DUE.is("of 2 for " + d[0], d[1], x.wanted(0, 0));
            DUE.is("of 5 for " + d[0], d[1] == NONE, x.wanted(0, 1) == NONE);
        }
        for (int bad = 0; bad < 20; bad++) {
            NewCoins x = with(2, 5);
            for (int i = 0; i < 20; i++) {
                x.expect(0, i == bad ? 997 : 998, OLD, 0, 1);
            }
            wanted("the one at " + bad + " has none", x, NONE, NONE);
            x.coin(NEW, 3);
            wanted("now it has", x, 19, 0, 1);
        }
    }

    /** Term 5: "is above 2000". */
    private static void wantedOfTheGreatestChange() {
        NewCoins x = with(1, 1000);
        x.expect(0, 1000, OLD, 0, 3);
        wanted("2000", x, 0, 2);
        x.forget(0);
        x.expect(0, 999, OLD, 0, 3);
        wanted("2001", x, NONE, NONE);
        x.forget(0);
        x.expect(0, 1, OLD, 0, 50);
        wanted("49999", x, NONE, NONE);
        x.forget(0);
        x.expect(0, 1001, OLD, 0, 3);
        wanted("1999", x, 999, 1);
        NewCoins y = new NewCoins();
        y.rate(67, 100);
        y.coin(OLD, 997);
        y.coin(NEW, 1000);
        y.till();
        // 3 * 997 * 67 = 200397 PARTS, less 300: 2000 UNITS and 97 PARTS
        y.expect(0, 3, OLD, 0, 3);
        wanted("2000 and SCRAPS", y, 2);
        y.coin(NEW, 1);
        y.expect(0, 2, OLD, 0, 3);
        wanted("2001 and SCRAPS", y, NONE, NONE);
    }

    /** Term 5: "or below 0". */
    private static void wantedOfChangeBelow0() {
        NewCoins x = with(1, 5);
        x.expect(0, 1000, OLD, 0, 1);
        wanted("as much as the price", x, 0, 0);
        x.expect(0, 1001, OLD, 0, 1);
        wanted("less by a UNIT", x, NONE, NONE);
        x.forget(0);
        x.expect(0, 5, NEW, 1, 1);
        wanted("5 for 5", x, 0, 0);
        x.expect(0, 6, NEW, 1, 1);
        wanted("5 for 6", x, NONE, NONE);
        x.forget(0);
        x.expect(0, 2000, NEW, 0, 1);
        wanted("1 for 2000", x, NONE, NONE);
        NewCoins y = new NewCoins();
        y.rate(99, 100);
        y.coin(OLD, 1);
        y.coin(NEW, 1);
        y.till();
        y.expect(0, 1, OLD, 0, 2);
        wanted("198 PARTS for 100", y, 0);
        y.expect(0, 1, OLD, 0, 1);
        wanted("less by a PART", y, NONE);
    }

    /** Term 5: "what was paid ahead of that CHANGE": its own payment too, none that comes later. */
    private static void wantedOfWhatWasPaidAhead() {
        NewCoins x = with(1, 5);
        x.expect(0, 5, NEW, 1, 2);
        wanted("5 of two fives", x, 0, 0);
        x.expect(0, 1, NEW, 0, 3);
        wanted("2 of three ones", x, 0, 0);
        x.forget(0);
        x.expect(0, 995, OLD, 0, 1);
        x.expect(0, 5, NEW, 1, 1);
        wanted("a five that comes later", x, 0, 1);
        x.forget(0);
        x.expect(0, 5, NEW, 1, 1);
        x.expect(0, 995, OLD, 0, 1);
        wanted("a five that came ahead", x, 0, 0);
        x.forget(0);
        x.expect(0, 5, NEW, 1, 1);
        x.expect(0, 5, NEW, 1, 1);
        x.expect(0, 990, OLD, 0, 1);
        wanted("two that came one by one", x, 0, 0);
        x.expect(0, 995, OLD, 0, 1);
        wanted("a third", x, 0, 1);
        x.forget(0);
        x.expect(0, 50, NEW, 0, 50);
        x.expect(0, 995, OLD, 0, 1);
        wanted("ones are no five", x, 0, 1);
        x.expect(0, 996, OLD, 0, 1);
        wanted("but ones", x, 0, 1);
    }

    /** Term 5: "and not given away". */
    private static void wantedOfWhatWasGivenAway() {
        NewCoins x = with(1, 5);
        x.expect(0, 10, NEW, 1, 2);
        x.expect(0, 995, OLD, 0, 1);
        x.expect(0, 995, OLD, 0, 1);
        wanted("both fives are given", x, 0, 0);
        x.expect(0, 995, OLD, 0, 1);
        wanted("none is left", x, 0, 1);
        x.expect(0, 5, NEW, 1, 1);
        x.expect(0, 995, OLD, 0, 1);
        wanted("one came, one goes", x, 0, 1);
        x.expect(0, 985, OLD, 0, 1);
        wanted("three more", x, 0, 4);
        x.expect(0, 250, NEW, 1, 50);
        x.expect(0, 985, OLD, 0, 1);
        wanted("the deepest is what counts, not the last", x, 0, 4);
    }

    /** Term 5: "though it has none beside". */
    private static void wantedThoughTheTillHasSome() {
        NewCoins x = with(1, 5);
        x.expect(0, 994, OLD, 0, 1);
        wanted("nothing in the TILL", x, 1, 1);
        x.put(0, NEW, 0, 1000);
        x.put(0, NEW, 1, 1000);
        wanted("1000 of each in the TILL", x, 1, 1);
        x.sale(0, 10, NEW, 1, 2);
        x.sale(0, 994, OLD, 0, 1);
        wanted("SALES are not EXPECTED ones", x, 1, 1);
        DUE.is("nor do they end those", 1, x.tell(0, 5));
    }

    /** Term 5: "by FEWEST", whatever else the TILL could give. */
    private static void wantedByFewestAlone() {
        NewCoins x = with(1, 3, 4);
        x.expect(0, 1, NEW, 2, 50);
        wanted("199 is 49 fours and a three", x, 0, 1, 0);
        x.forget(0);
        x.expect(0, 994, OLD, 0, 1);
        wanted("6 is two threes, not 4 and ones", x, 0, 2, 0);
        NewCoins y = with(6, 50, 1, 10, 30, 2, 11);
        y.expect(0, 908, OLD, 0, 1);
        wanted("of several that of Term 3", y, 0, 1, 1, 0, 1, 0, 1);
    }

    /** Term 5 sets WANTED no bound; 20 SALES of the greatest CHANGE in ones are the most. */
    private static void wantedBeyondATill() {
        NewCoins x = with(1);
        x.expect(0, 1, OLD, 0, 2);
        wanted("1999 ones", x, 1999);
        for (int i = 1; i < 20; i++) {
            x.expect(0, 1000, OLD, 0, 3);
        }
        wanted("the most", x, 1999 + 19 * 2000);
    }
}
