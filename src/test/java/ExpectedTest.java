/** Promises 22 (expect), 23 (forget) and 24 (wanted). */
public final class ExpectedTest {
    private static final int NONE = NewCoins.NONE;
    private static final int OLD = 0;
    private static final int NEW = 1;
    private static final int[] NOT_THERE = {-1, 5, 8, Integer.MIN_VALUE, Integer.MAX_VALUE};
    private static final Due DUE = new Due();

    public static void main(String[] args) {
        expects();
        expectsOfWhatIsNot();
        forgets();
        wantedOfNone();
        wantedByHand();
        wantedOfWhatWasPaid();
        noneIsWanted();
        wantedFollowsTheLand();
        wantedAtTheEdges();
        DUE.end();
    }

    /** COINS of OLD 7; COINS of NEW 1, 10, 5; two TILLS. */
    private static NewCoins land() {
        NewCoins x = new NewCoins();
        x.coin(OLD, 7);
        x.coin(NEW, 1);
        x.coin(NEW, 10);
        x.coin(NEW, 5);
        x.till();
        x.till();
        return x;
    }

    private static void wanted(String what, NewCoins x, int till, int... due) {
        for (int coin = 0; coin < due.length; coin++) {
            DUE.is(what + ", COIN " + coin, due[coin], x.wanted(till, coin));
        }
    }

    private static void expects() {
        NewCoins x = land();
        for (int i = 1; i <= 20; i++) {
            DUE.is("expect " + i, i, x.expect(0, i, OLD, 0, 3));
        }
        DUE.is("a 21st", NONE, x.expect(0, 1, OLD, 0, 1));
        DUE.is("EXPECTED SALES", 20, x.tell(0, 5));
        DUE.is("the other TILL has its own", 1, x.expect(1, 1, OLD, 0, 1));
        DUE.is("no SALE was", 0, x.tell(0, 0));
        DUE.is("no COIN came", 0, x.has(0, OLD, 0));
        DUE.is("rate is free yet", true, x.rate(2, 3));
    }

    private static void expectsOfWhatIsNot() {
        NewCoins x = land();
        for (int no : NOT_THERE) {
            DUE.is("expect at TILL " + no, NONE, x.expect(no, 1, NEW, 1, 1));
            DUE.is("expect by SYSTEM " + no, NONE, x.expect(0, 1, no, 0, 1));
            DUE.is("expect by COIN " + no, NONE, x.expect(0, 1, NEW, no, 1));
        }
        DUE.is("expect at no TILL 2", NONE, x.expect(2, 1, NEW, 1, 1));
        DUE.is("expect by no SYSTEM 2", NONE, x.expect(0, 1, 2, 0, 1));
        DUE.is("expect by no COIN 1 of OLD", NONE, x.expect(0, 1, OLD, 1, 1));
        for (int price : new int[] {0, -1, 2001, Integer.MIN_VALUE, Integer.MAX_VALUE}) {
            DUE.is("expect at the price " + price, NONE, x.expect(0, price, NEW, 1, 1));
        }
        for (int n : new int[] {0, -1, 51, Integer.MIN_VALUE, Integer.MAX_VALUE}) {
            DUE.is("expect by " + n + " COINS", NONE, x.expect(0, 1, NEW, 1, n));
        }
        DUE.is("none came", 0, x.tell(0, 5));
        DUE.is("the least", 1, x.expect(0, 1, NEW, 0, 1));
        DUE.is("the greatest", 2, x.expect(0, 2000, NEW, 1, 50));
    }

    private static void forgets() {
        NewCoins x = land();
        x.expect(0, 1, NEW, 1, 1);
        x.expect(0, 1, NEW, 1, 1);
        x.expect(1, 1, NEW, 1, 1);
        DUE.is("forget", true, x.forget(0));
        DUE.is("nothing is EXPECTED", 0, x.tell(0, 5));
        DUE.is("the other TILL still EXPECTS", 1, x.tell(1, 5));
        wanted("after forget", x, 0, 0, 0, 0);
        DUE.is("forget nothing", true, x.forget(0));
        DUE.is("expect after forget", 1, x.expect(0, 5, NEW, 1, 1));
        wanted("only what came after", x, 0, 0, 0, 1);
        for (int no : NOT_THERE) {
            DUE.is("forget TILL " + no, false, x.forget(no));
        }
        DUE.is("forget no TILL 2", false, x.forget(2));
    }

    private static void wantedOfNone() {
        NewCoins x = land();
        wanted("nothing is EXPECTED", x, 0, 0, 0, 0);
        for (int no : NOT_THERE) {
            DUE.is("wanted for TILL " + no, NONE, x.wanted(no, 0));
            DUE.is("wanted of COIN " + no, NONE, x.wanted(0, no));
        }
        DUE.is("wanted for no TILL 2", NONE, x.wanted(2, 0));
        DUE.is("wanted of no COIN 3", NONE, x.wanted(0, 3));
    }

    private static void wantedByHand() {
        NewCoins x = land();
        x.expect(0, 3, NEW, 1, 1);   // 7 = 5 + 1 + 1
        wanted("one SALE", x, 0, 2, 0, 1);
        x.expect(0, 4, OLD, 0, 1);   // 3 = 1 + 1 + 1
        wanted("two SALES", x, 0, 5, 0, 1);
        x.expect(0, 5, OLD, 0, 3);   // 16 = 10 + 5 + 1; the ten of the first SALE is there
        wanted("three SALES", x, 0, 6, 0, 2);
        x.expect(0, 8, OLD, 0, 4);   // 20 = 10 + 10; none of the tens is left
        wanted("four SALES", x, 0, 6, 2, 2);
        x.put(0, NEW, 0, 500);
        wanted("what the TILL has counts for nothing", x, 0, 6, 2, 2);
        wanted("the other TILL", x, 1, 0, 0, 0);
    }

    private static void wantedOfWhatWasPaid() {
        NewCoins x = land();
        x.expect(0, 1, NEW, 0, 3);   // 2 = 1 + 1, out of the three that were just paid
        wanted("paid ahead of that CHANGE", x, 0, 0, 0, 0);
        x.expect(0, 4, NEW, 2, 1);   // 1, the one that stayed
        wanted("one stayed", x, 0, 0, 0, 0);
        x.expect(0, 4, NEW, 2, 1);   // 1, which is wanted now
        wanted("none is left", x, 0, 1, 0, 0);
        x.expect(0, 50, NEW, 0, 50);
        wanted("what comes later is too late", x, 0, 1, 0, 0);
        x.expect(0, 1, NEW, 2, 1);   // 4 ones of 50
        wanted("then there are enough", x, 0, 1, 0, 0);
        x.forget(0);
        x.expect(0, 4, NEW, 2, 2);   // 6 = 5 + 1: one of the two fives goes back
        x.expect(0, 15, NEW, 1, 3);  // 15 = 10 + 5
        wanted("by FEWEST, be there others or not", x, 0, 1, 0, 0);
        x.expect(0, 5, NEW, 1, 1);   // 5: none of the two is left
        wanted("each five once", x, 0, 1, 0, 1);
    }

    private static void noneIsWanted() {
        NewCoins x = land();
        x.expect(0, 9, NEW, 1, 1);
        x.expect(0, 11, NEW, 1, 1);
        wanted("less than the price", x, 0, NONE, NONE, NONE);
        x.expect(0, 9, NEW, 1, 1);
        wanted("though others follow", x, 0, NONE, NONE, NONE);
        x.forget(0);
        x.rate(1, 2);
        x.expect(0, 4, OLD, 0, 1);   // 7 PARTS against 8
        wanted("less by half a UNIT", x, 0, NONE, NONE, NONE);
        x = new NewCoins();
        x.coin(NEW, 2);
        x.coin(NEW, 5);
        x.till();
        x.expect(0, 3, NEW, 1, 1);
        wanted("2", x, 0, 1, 0);
        x.expect(0, 2, NEW, 1, 1);
        wanted("no FEWEST for 3", x, 0, NONE, NONE);
        x.coin(NEW, 3);
        wanted("until there is a COIN for it", x, 0, 1, 0, 1);
    }

    private static void wantedFollowsTheLand() {
        NewCoins x = land();
        x.expect(0, 3, OLD, 0, 1);
        wanted("at 1 to 1, 4", x, 0, 4, 0, 0);
        x.rate(3, 1);
        wanted("at 3 to 1, 18", x, 0, 3, 1, 1);
        x.coin(NEW, 9);
        wanted("with a nine", x, 0, 0, 0, 0, 2);
        x.rate(3, 2);
        wanted("at 3 to 2, 7 and a half", x, 0, 2, 0, 1, 0);
    }

    private static void wantedAtTheEdges() {
        NewCoins x = new NewCoins();
        x.coin(NEW, 1000);
        x.coin(NEW, 1);
        x.till();
        x.expect(0, 1000, NEW, 0, 3);
        wanted("CHANGE of 2000, of what was paid", x, 0, 0, 0);
        x.expect(0, 999, NEW, 0, 3);
        wanted("CHANGE of 2001", x, 0, NONE, NONE);
        x.forget(0);
        for (int i = 0; i < 20; i++) {
            x.expect(0, 1, NEW, 0, 1);
        }
        wanted("more than a TILL can have", x, 0, 0, 20 * 999);
        x.forget(0);
        x.expect(0, 2000, NEW, 0, 50);
        wanted("far more than the price", x, 0, NONE, NONE);
    }
}
