/**
 * Each sentence that names a boundary in Term 4 and in promises 14 to 21: the number at the edge, the
 * number beyond it, and that a refused call changes nothing.
 */
public final class EdgesOfTillsTest {
    private static final int NONE = NewCoins.NONE;
    private static final int OLD = 0;
    private static final int NEW = 1;
    private static final int LEAST = Integer.MIN_VALUE;
    private static final int GREATEST = Integer.MAX_VALUE;
    private static final int[] NO_SYSTEMS = {-1, 2, 3, LEAST, GREATEST};
    private static final Due DUE = new Due();
    private static final Refused RICH = new Refused(DUE, "rich", Scenes::rich);
    private static final Refused FULL = new Refused(DUE, "full", Scenes::full);
    private static final Refused SHOP = new Refused(DUE, "shop", EdgesOfTillsTest::shop);

    public static void main(String[] args) {
        tillsUpToFour();
        putOfNone();
        putUpTo1000();
        putDownTo0();
        saleOfNone();
        saleAtAnotherPrice();
        saleByAnotherNumber();
        saleOfLessThanThePrice();
        saleOfLessByOnePart();
        saleWithoutTheCoins();
        saleInCoinsThatWerePaid();
        saleNeverGivesOldOnes();
        saleOfTheGreatestChange();
        saleOfAllThatATillCanHave();
        saleUpTo1000();
        saleOfScraps();
        saleByTheFewest();
        givenOfNone();
        tellOfNone();
        tellAfter512Calls();
        hasOfNone();
        drawOfNone();
        drawnOfNone();
        drawnInAfter512Calls();
        DUE.end();
    }

    /**
     * RATE 1 to 100; COINS of OLD 1000 and 1; COINS of NEW 1000, 1 and 5; one TILL with 2 of each
     * COIN of NEW; a SALE was there.
     */
    private static void shop(NewCoins x) {
        x.rate(1, 100);
        x.coin(OLD, 1000);
        x.coin(OLD, 1);
        x.coin(NEW, 1000);
        x.coin(NEW, 1);
        x.coin(NEW, 5);
        x.image(1);
        x.till();
        for (int coin = 0; coin < 3; coin++) {
            x.put(0, NEW, coin, 2);
        }
        // 10 UNITS of NEW less 9: the CHANGE is a third one
        x.put(0, NEW, 1, 1);
        x.sale(0, 9, OLD, 0, 1);
    }

    private static NewCoins inShop() {
        NewCoins x = new NewCoins();
        shop(x);
        return x;
    }

    private static NewCoins full() {
        NewCoins x = new NewCoins();
        Scenes.full(x);
        return x;
    }

    /** Promise 14: "NONE: there are 4", "A TILL with nothing"; Term 4: "at most 4, from 0 on". */
    private static void tillsUpToFour() {
        NewCoins x = new NewCoins();
        x.coin(OLD, 3);
        x.coin(NEW, 3);
        for (int till = 0; till < 4; till++) {
            DUE.is("TILL " + till + " is none yet", -1, x.tell(till, 0));
            DUE.is("till", till, x.till());
            for (int what = 0; what < 6; what++) {
                DUE.is("a TILL with nothing", 0, x.tell(till, what));
            }
            DUE.is("no OLD one", 0, x.has(till, OLD, 0));
            DUE.is("no NEW one", 0, x.has(till, NEW, 0));
            DUE.is("no SALE", NONE, x.given(till, 0));
            DUE.is("put", 7 + till, x.put(till, NEW, 0, 7 + till));
        }
        DUE.is("a fifth", NONE, x.till());
        DUE.is("TILLS", 4, x.about(2, 1));
        FULL.is("a fifth", NONE, NewCoins::till);
    }

    /** Promise 15: "there is none such (of any)". */
    private static void putOfNone() {
        for (int till : new int[] {-1, 2, 4, LEAST, GREATEST}) {
            RICH.is("put in TILL " + till, NONE, x -> x.put(till, NEW, 0, 1));
            RICH.is("put none in TILL " + till, NONE, x -> x.put(till, NEW, 0, 0));
        }
        for (int system : NO_SYSTEMS) {
            RICH.is("put of SYSTEM " + system, NONE, x -> x.put(0, system, 0, 1));
        }
        for (int coin : new int[] {-1, 3, 8, LEAST, GREATEST}) {
            RICH.is("put of COIN " + coin + " of NEW", NONE, x -> x.put(0, NEW, coin, 1));
            RICH.is("put of COIN " + coin + " of OLD", NONE, x -> x.put(0, OLD, coin, 1));
            RICH.is("put none of COIN " + coin, NONE, x -> x.put(0, OLD, coin, 0));
        }
        FULL.is("put in TILL 4", NONE, x -> x.put(4, NEW, 0, 1));
        FULL.is("put of COIN 8", NONE, x -> x.put(0, NEW, 8, 1));
        NewCoins x = full();
        DUE.is("put of the last COIN in the last TILL", 3, x.put(3, NEW, 6, 3));
        DUE.is("and of OLD", 4, x.put(3, OLD, 6, 4));
        DUE.is("and in the first", 5, x.put(0, OLD, 0, 5));
    }

    /** Promise 15: "or more than 1000"; Term 4: "0 .. 1000". */
    private static void putUpTo1000() {
        for (int system = 0; system <= 1; system++) {
            int of = system;
            NewCoins x = inShop();
            x.put(0, system, 0, -x.has(0, system, 0));
            DUE.is("1001 at once", NONE, x.put(0, system, 0, 1001));
            DUE.is("999", 999, x.put(0, system, 0, 999));
            DUE.is("to 1001", NONE, x.put(0, system, 0, 2));
            DUE.is("to 1000", 1000, x.put(0, system, 0, 1));
            DUE.is("one more", NONE, x.put(0, system, 0, 1));
            DUE.is("none more", 1000, x.put(0, system, 0, 0));
            DUE.is("the other COIN has room", 1000,
                    x.put(0, system, 1, 1000 - x.has(0, system, 1)));
            for (int n : new int[] {1, 2, 1000, GREATEST - 1000, GREATEST}) {
                FULL.is("put " + n + " to 1000", NONE, y -> y.put(3, of, 7, n));
            }
            FULL.is("put none", 1000, y -> y.put(3, of, 7, 0));
        }
    }

    /** Promise 15: "it would have less than 0". */
    private static void putDownTo0() {
        for (int system = 0; system <= 1; system++) {
            int of = system;
            NewCoins x = full();
            DUE.is("999 go out", 1, x.put(3, system, 7, -999));
            DUE.is("two of one", NONE, x.put(3, system, 7, -2));
            DUE.is("the last one", 0, x.put(3, system, 7, -1));
            DUE.is("one of none", NONE, x.put(3, system, 7, -1));
            DUE.is("none of none", 0, x.put(3, system, 7, 0));
            for (int n : new int[] {-1001, -1002, LEAST, LEAST + 999}) {
                FULL.is("put " + n + " to 1000", NONE, y -> y.put(3, of, 7, n));
            }
            for (int n : new int[] {-1, LEAST}) {
                FULL.is("put " + n + " to none", NONE, y -> y.put(2, of, 7, n));
            }
            DUE.is("all at once", 0, full().put(3, system, 7, -1000));
        }
    }

    /** Promise 16: "there is none such (of any)". */
    private static void saleOfNone() {
        for (int till : new int[] {-1, 1, 4, LEAST, GREATEST}) {
            SHOP.is("sale at TILL " + till, NONE, x -> x.sale(till, 5, NEW, 2, 1));
        }
        for (int system : NO_SYSTEMS) {
            SHOP.is("sale by SYSTEM " + system, NONE, x -> x.sale(0, 5, system, 0, 1));
        }
        for (int coin : new int[] {-1, 3, 8, LEAST, GREATEST}) {
            SHOP.is("sale by COIN " + coin + " of NEW", NONE, x -> x.sale(0, 5, NEW, coin, 1));
            SHOP.is("sale by COIN " + coin + " of OLD", NONE, x -> x.sale(0, 5, OLD, coin, 1));
        }
        SHOP.is("sale by COIN 2 of OLD", NONE, x -> x.sale(0, 5, OLD, 2, 50));
        FULL.is("sale at TILL 4", NONE, x -> x.sale(4, 5, NEW, 2, 1));
        FULL.is("sale by COIN 8", NONE, x -> x.sale(3, 5, NEW, 8, 1));
        NewCoins x = full();
        DUE.is("sale at the last TILL", 0, x.sale(3, 100, NEW, 6, 1));
        DUE.is("sale by the last COIN", 0, x.sale(0, 200, NEW, 7, 1));
        // 400 UNITS of OLD at 5 to 4
        DUE.is("sale by the last COIN of OLD", 0, x.sale(0, 500, OLD, 7, 1));
    }

    /** Term 4: "a NEW PRICE (1 .. 2000 UNITS of NEW)". */
    private static void saleAtAnotherPrice() {
        for (int price : new int[] {0, -1, 2001, LEAST, GREATEST}) {
            SHOP.is("sale at " + price, NONE, x -> x.sale(0, price, NEW, 0, 3));
            SHOP.is("sale at " + price + " by OLD", NONE, x -> x.sale(0, price, OLD, 0, 50));
        }
        // nothing but the price is wrong in these: the CHANGE would be 1, or 0
        SHOP.is("sale at 0 by a one", NONE, x -> x.sale(0, 0, NEW, 1, 1));
        Refused thirds = new Refused(DUE, "COIN 667", x -> {
            x.coin(NEW, 667);
            x.till();
        });
        thirds.is("sale at 2001 by three", NONE, x -> x.sale(0, 2001, NEW, 0, 3));
        DUE.is("sale at 1", 0, inShop().sale(0, 1, NEW, 1, 1));
        DUE.is("sale at 2000", 0, inShop().sale(0, 2000, NEW, 0, 2));
        DUE.is("sale at 1999", 1, inShop().sale(0, 1999, NEW, 0, 2));
        NewCoins x = inShop();
        x.step(7);
        DUE.is("sale at a price that STEP goes not into", 0, x.sale(0, 1, NEW, 1, 1));
    }

    /** Term 4: "paid by n (1 .. 50) of one COIN". */
    private static void saleByAnotherNumber() {
        for (int n : new int[] {0, -1, 51, LEAST, GREATEST}) {
            SHOP.is("sale by " + n, NONE, x -> x.sale(0, 1, NEW, 1, n));
            SHOP.is("sale by " + n + " of 5", NONE, x -> x.sale(0, 255, NEW, 2, n));
            SHOP.is("sale by " + n + " of OLD", NONE, x -> x.sale(0, 510, OLD, 0, n));
        }
        NewCoins x = inShop();
        DUE.is("sale by 50", 0, x.sale(0, 50, NEW, 1, 50));
        DUE.is("all came", 52, x.has(0, NEW, 1));
        DUE.is("sale by 1", 0, x.sale(0, 1, NEW, 1, 1));
        DUE.is("it came", 53, x.has(0, NEW, 1));
        DUE.is("sale by 50 of OLD", 0, x.sale(0, 500, OLD, 0, 50));
        DUE.is("and one", 51, x.has(0, OLD, 0));
    }

    /** Term 4: "refused if they are worth less than the price". */
    private static void saleOfLessThanThePrice() {
        SHOP.is("5 for 6", NONE, x -> x.sale(0, 6, NEW, 2, 1));
        SHOP.is("1 for 2000", NONE, x -> x.sale(0, 2000, NEW, 1, 1));
        SHOP.is("1999 and a bit for 2000", NONE, x -> x.sale(0, 2000, OLD, 0, 50));
        SHOP.is("250 for 251", NONE, x -> x.sale(0, 251, NEW, 2, 50));
        DUE.is("5 for 5", 0, inShop().sale(0, 5, NEW, 2, 1));
        DUE.is("5 for 4", 1, inShop().sale(0, 4, NEW, 2, 1));
        DUE.is("250 for 250", 0, inShop().sale(0, 250, NEW, 2, 50));
        DUE.is("10 of OLD for 10", 0, inShop().sale(0, 10, OLD, 0, 1));
        SHOP.is("10 of OLD for 11", NONE, x -> x.sale(0, 11, OLD, 0, 1));
    }

    /** Term 4: the same where less than a UNIT of NEW is missing. */
    private static void saleOfLessByOnePart() {
        Refused halves = new Refused(DUE, "99 to 100", EdgesOfTillsTest::halves);
        // 99 PARTS against 100; 1 UNIT of NEW is what 2 UNITS of OLD can pay
        halves.is("99 PARTS for 1", NONE, x -> x.sale(0, 1, OLD, 0, 1));
        halves.is("198 PARTS for 2", NONE, x -> x.sale(0, 2, OLD, 0, 2));
        NewCoins x = new NewCoins();
        halves(x);
        DUE.is("198 PARTS for 1", 0, x.sale(0, 1, OLD, 0, 2));
        DUE.is("SCRAPS", 98, x.tell(0, 1));
        DUE.is("4950 PARTS for 49", 0, x.sale(0, 49, OLD, 0, 50));
        DUE.is("SCRAPS of both", 98 + 50, x.tell(0, 1));
    }

    private static void halves(NewCoins x) {
        x.rate(99, 100);
        x.coin(OLD, 1);
        x.coin(NEW, 1);
        x.till();
    }

    /** Term 4: "the CHANGE can't be given so": the TILL has too few, or none that make it. */
    private static void saleWithoutTheCoins() {
        // 1000, 1 and 5, two of each, and those that are paid
        SHOP.is("3 in ones", NONE, x -> x.sale(0, 2, NEW, 2, 1));
        SHOP.is("4", NONE, x -> x.sale(0, 1, NEW, 2, 1));
        SHOP.is("13", NONE, x -> x.sale(0, 987, NEW, 0, 1));
        SHOP.is("995", NONE, x -> x.sale(0, 5, NEW, 0, 1));
        SHOP.is("by OLD, 3", NONE, x -> x.sale(0, 7, OLD, 0, 1));
        DUE.is("2 in ones", 2, inShop().sale(0, 3, NEW, 2, 1));
        DUE.is("12 in all that there is", 12, inShop().sale(0, 988, NEW, 0, 1));
        DUE.is("by OLD, 2", 2, inShop().sale(0, 8, OLD, 0, 1));
        NewCoins x = inShop();
        DUE.is("the ones go", 2, x.sale(0, 3, NEW, 2, 1));
        DUE.is("none is left", 0, x.has(0, NEW, 1));
        DUE.is("1", NONE, x.sale(0, 4, NEW, 2, 1));
        DUE.is("refused: the five has not come", 3, x.has(0, NEW, 2));
        DUE.is("refused: the latest SALE stays", 2, x.given(0, 1));
        Refused empty = new Refused(DUE, "without COINS of NEW", y -> {
            y.coin(OLD, 5);
            y.till();
        });
        empty.is("1", NONE, y -> y.sale(0, 4, OLD, 0, 1));
        NewCoins y = new NewCoins();
        y.coin(OLD, 5);
        y.till();
        DUE.is("no CHANGE needs no COIN", 0, y.sale(0, 5, OLD, 0, 1));
    }

    /** Term 4: "given in COINS of NEW that the TILL has then": those that were just paid too. */
    private static void saleInCoinsThatWerePaid() {
        NewCoins x = new NewCoins();
        x.coin(NEW, 5);
        x.coin(NEW, 2);
        x.till();
        DUE.is("5 of two fives", 5, x.sale(0, 5, NEW, 0, 2));
        DUE.is("one of them", 1, x.given(0, 0));
        DUE.is("the other stays", 1, x.has(0, NEW, 0));
        DUE.is("10 of three fives, and that one", 10, x.sale(0, 5, NEW, 0, 3));
        DUE.is("two of them", 2, x.given(0, 0));
        DUE.is("7 needs a two", NONE, x.sale(0, 3, NEW, 0, 2));
        DUE.is("4 of three twos", 4, x.sale(0, 2, NEW, 1, 3));
        DUE.is("48 more", 245, x.sale(0, 5, NEW, 0, 50));
    }

    /** Term 4: "given in COINS of NEW". */
    private static void saleNeverGivesOldOnes() {
        Refused old = new Refused(DUE, "OLD ones alone", x -> {
            x.coin(OLD, 5);
            x.coin(OLD, 1);
            x.coin(NEW, 5);
            x.coin(NEW, 1);
            x.till();
            x.put(0, OLD, 0, 10);
            x.put(0, OLD, 1, 10);
        });
        old.is("1", NONE, x -> x.sale(0, 4, OLD, 0, 1));
        old.is("1 of a NEW five", NONE, x -> x.sale(0, 4, NEW, 0, 1));
        old.is("5 of two", NONE, x -> x.sale(0, 5, OLD, 0, 2));
    }

    /** Term 4: "is above 2000". */
    private static void saleOfTheGreatestChange() {
        // 3000 less 1000, less 999: all of it could be given
        SHOP.is("2001", NONE, x -> x.sale(0, 999, NEW, 0, 3));
        SHOP.is("49999", NONE, x -> x.sale(0, 1, NEW, 0, 50));
        NewCoins x = inShop();
        DUE.is("2000", 2000, x.sale(0, 1000, NEW, 0, 3));
        DUE.is("two of 1000", 2, x.given(0, 0));
        DUE.is("1999", NONE, x.sale(0, 1001, NEW, 0, 3));
        x.put(0, NEW, 2, 300);
        x.put(0, NEW, 1, 100);
        DUE.is("1999 again", 1999, x.sale(0, 1001, NEW, 0, 3));
        // a and b: 2000 UNITS of NEW and 99 of 100 PARTS are cut to 2000
        NewCoins y = new NewCoins();
        y.rate(67, 100);
        y.coin(OLD, 997);
        y.coin(NEW, 1000);
        y.till();
        y.put(0, NEW, 0, 9);
        // 3 * 997 * 67 = 200397 PARTS, less 300: 2000 UNITS and 97 PARTS
        DUE.is("2000 and SCRAPS", 2000, y.sale(0, 3, OLD, 0, 3));
        DUE.is("the SCRAPS", 97, y.tell(0, 1));
        DUE.is("2001 and SCRAPS", NONE, y.sale(0, 2, OLD, 0, 3));
    }

    /** Term 4: the greatest CHANGE in the most COINS, down to "0 .. 1000"'s other end. */
    private static void saleOfAllThatATillCanHave() {
        for (int lacking = 0; lacking <= 1; lacking++) {
            NewCoins x = new NewCoins();
            x.coin(OLD, 1000);
            x.coin(NEW, 1);
            x.coin(NEW, 2);
            x.till();
            x.put(0, NEW, 0, 1000 - lacking);
            x.put(0, NEW, 1, 500);
            DUE.is("2000 of 1500 COINS", lacking == 0 ? 2000 : NONE, x.sale(0, 1000, OLD, 0, 3));
            DUE.is("ones left", lacking == 0 ? 0 : 999, x.has(0, NEW, 0));
            DUE.is("twos left", lacking == 0 ? 0 : 500, x.has(0, NEW, 1));
            DUE.is("ones given", lacking == 0 ? 1000 : NONE, x.given(0, 0));
            DUE.is("what was paid", lacking == 0 ? 3 : 0, x.has(0, OLD, 0));
        }
    }

    /** Term 4: "or some COIN would be above 1000". */
    private static void saleUpTo1000() {
        for (int system = 0; system <= 1; system++) {
            int of = system;
            int price = system == OLD ? 500 : 200;
            FULL.is("one to 1000", NONE, x -> x.sale(3, price, of, 7, 1));
            FULL.is("50 to 1000", NONE, x -> x.sale(3, 2000, of, 7, 50));
            Refused nearly = new Refused(DUE, "999", x -> {
                Scenes.full(x);
                x.put(3, of, 7, -1);
            });
            nearly.is("two to 999", NONE, x -> x.sale(3, 2 * price, of, 7, 2));
            NewCoins x = full();
            x.put(3, system, 7, -1);
            DUE.is("one to 999", 0, x.sale(3, price, system, 7, 1));
            DUE.is("it has 1000", 1000, x.has(3, system, 7));
            DUE.is("one more", NONE, x.sale(3, price, system, 7, 1));
            DUE.is("another COIN may come", 0, x.sale(3, 100, NEW, 6, 1));
            DUE.is("or to another TILL", 0, x.sale(2, price, system, 7, 1));
            int fifty = system == OLD ? 1250 : 500;
            x.put(3, system, 3, 951);
            DUE.is("50 to 951", NONE, x.sale(3, fifty, system, 3, 50));
            DUE.is("it has 951", 951, x.put(3, system, 3, 0));
            x.put(3, system, 3, -1);
            DUE.is("50 to 950", 0, x.sale(3, fifty, system, 3, 50));
            DUE.is("it has 1000 of those", 1000, x.has(3, system, 3));
        }
        // What is paid comes in ahead of the CHANGE, though that would take one out again.
        FULL.is("two to 1000, one goes out", NONE, x -> x.sale(3, 200, NEW, 7, 2));
        NewCoins x = full();
        x.put(3, NEW, 7, -2);
        DUE.is("two to 998, one goes out", 200, x.sale(3, 200, NEW, 7, 2));
        DUE.is("it has 999", 999, x.has(3, NEW, 7));
    }

    /** Term 4: "cut to UNITS of NEW", "what is cut off are SCRAPS (PARTS)". */
    private static void saleOfScraps() {
        NewCoins x = new NewCoins();
        x.rate(1, 100);
        x.coin(OLD, 199);
        x.coin(OLD, 200);
        x.coin(OLD, 201);
        x.coin(OLD, 100);
        x.coin(NEW, 1);
        x.till();
        x.till();
        x.put(0, NEW, 0, 9);
        DUE.is("99 PARTS are no UNIT", 0, x.sale(0, 1, OLD, 0, 1));
        DUE.is("SCRAPS 99", 99, x.tell(0, 1));
        DUE.is("100 PARTS are one", 1, x.sale(0, 1, OLD, 1, 1));
        DUE.is("no SCRAPS more", 99, x.tell(0, 1));
        DUE.is("101 PARTS are one", 1, x.sale(0, 1, OLD, 2, 1));
        DUE.is("SCRAPS 100, which are not given", 100, x.tell(0, 1));
        DUE.is("no PART", 0, x.sale(0, 1, OLD, 3, 1));
        DUE.is("none more", 100, x.tell(0, 1));
        DUE.is("the other TILL has none", 0, x.tell(1, 1));
        NewCoins y = new NewCoins();
        y.rate(100, 1);
        y.coin(OLD, 1);
        y.coin(NEW, 1);
        y.till();
        y.put(0, NEW, 0, 99);
        DUE.is("a UNIT of NEW is one PART", 99, y.sale(0, 1, OLD, 0, 1));
        DUE.is("nothing is cut off", 0, y.tell(0, 1));
    }

    private static void change(String what, int[] values, int[] counts, int change, int... due) {
        NewCoins x = new NewCoins();
        x.coin(OLD, 1000);
        x.till();
        for (int coin = 0; coin < values.length; coin++) {
            x.coin(NEW, values[coin]);
            x.put(0, NEW, coin, counts[coin]);
        }
        DUE.is(what, change, x.sale(0, 1000 - change, OLD, 0, 1));
        for (int coin = 0; coin < values.length; coin++) {
            DUE.is(what + ", given of " + values[coin], due[coin], x.given(0, coin));
            DUE.is(what + ", left of " + values[coin], counts[coin] - due[coin], x.has(0, NEW, coin));
        }
    }

    /** Term 4: "of all rows of these that make it, that with the fewest COINS, of several as in 3". */
    private static void saleByTheFewest() {
        int[] values = {6, 50, 1, 10, 30, 2, 11};
        int[] many = {9, 9, 9, 9, 9, 9, 9};
        change("the third place", values, many, 92, 0, 1, 1, 0, 1, 0, 1);
        change("no 11", values, new int[] {9, 9, 9, 9, 9, 9, 0}, 92, 0, 1, 0, 1, 1, 1, 0);
        change("no 11, no 10", values, new int[] {9, 9, 9, 0, 9, 9, 0}, 92, 2, 1, 0, 0, 1, 0, 0);
        change("no 50", values, new int[] {9, 0, 9, 9, 9, 9, 9}, 92, 0, 0, 0, 0, 3, 1, 0);
        change("two of 30", values, new int[] {9, 0, 9, 9, 2, 9, 9}, 92, 0, 0, 0, 1, 2, 0, 2);
        int[] few = {10, 6, 1};
        change("two sixes", few, new int[] {1, 2, 9}, 12, 0, 2, 0);
        change("one six: ten and ones", few, new int[] {1, 1, 9}, 12, 1, 0, 2);
        change("one six, one one", few, new int[] {0, 1, 6}, 12, 0, 1, 6);
        change("all that there is", few, new int[] {1, 1, 2}, 18, 1, 1, 2);
        change("nothing", few, new int[] {1, 1, 2}, 0, 0, 0, 0);
        change("many of one", new int[] {1}, new int[] {1000}, 999, 999);
    }

    /** Promise 17: "NONE: there was none, or there is none such (of either)". */
    private static void givenOfNone() {
        Refused open = new Refused(DUE, "open", Scenes::open);
        for (int till = 0; till < 2; till++) {
            int at = till;
            open.is("no SALE was at TILL " + till, NONE, x -> x.given(at, 0));
        }
        for (int till : new int[] {-1, 2, 4, LEAST, GREATEST}) {
            RICH.is("given at TILL " + till, NONE, x -> x.given(till, 0));
        }
        for (int coin : new int[] {-1, 3, 8, LEAST, GREATEST}) {
            RICH.is("given of COIN " + coin, NONE, x -> x.given(0, coin));
        }
        FULL.is("given of COIN 8", NONE, x -> x.given(1, 8));
        FULL.is("no SALE was at TILL 3", NONE, x -> x.given(3, 0));
        FULL.is("given of COIN 7", 0, x -> x.given(1, 7));
        FULL.is("given of COIN 0", 2, x -> x.given(1, 0));
        NewCoins x = new NewCoins();
        Scenes.open(x);
        x.sale(0, 7, NEW, 1, 2);
        DUE.is("a SALE was at TILL 0", 1, x.given(0, 1));
        DUE.is("none at TILL 1", NONE, x.given(1, 1));
        DUE.is("no CHANGE", 0, x.sale(0, 14, NEW, 1, 2));
        DUE.is("the latest SALE gave none", 0, x.given(0, 1));
        DUE.is("a refused one", NONE, x.sale(0, 15, NEW, 1, 2));
        DUE.is("the latest SALE is that ahead of it", 0, x.given(0, 1));
    }

    /** Promise 18: "-1: there is none such, or for another what". */
    private static void tellOfNone() {
        for (int till : new int[] {-1, 2, 4, LEAST, GREATEST}) {
            for (int what = 0; what < 6; what++) {
                int of = what;
                RICH.is("tell " + till + " " + what, -1, x -> x.tell(till, of));
            }
        }
        for (int what : new int[] {-1, 6, 7, LEAST, GREATEST}) {
            RICH.is("tell 0 " + what, -1, x -> x.tell(0, what));
            FULL.is("tell 3 " + what, -1, x -> x.tell(3, what));
        }
        FULL.is("tell 4 0", -1, x -> x.tell(4, 0));
        // one five is paid for 3, two ones are given of nine; a UNIT of NEW is 4 PARTS
        long[] first = {1, 0, (7 + 5) * 4, 0, 12, 0};
        long[] last = {0, 0, 1000 * (400 * 5 + 200 * 4), 1000 * 400 * 5, 0, 20};
        NewCoins x = full();
        for (int what = 0; what < 6; what++) {
            DUE.is("tell 1 " + what, first[what], x.tell(1, what));
            DUE.is("tell 3 " + what, last[what], x.tell(3, what));
        }
    }

    /** Promise 18 at the greatest numbers that an object's 512 calls can bring. */
    private static void tellAfter512Calls() {
        NewCoins x = new NewCoins();
        x.rate(99, 100);
        x.coin(OLD, 1000);
        x.coin(OLD, 21);
        x.till();
        // 4 calls were made, 3 are left to tell of the SALES
        int sales = 512 - 4 - 3;
        for (int i = 0; i < sales; i++) {
            // 99 * 21 = 2079 PARTS, less 2000: 79 SCRAPS
            DUE.is("sale", 0, x.sale(0, 20, OLD, 1, 1));
        }
        DUE.is("SALES", sales, x.tell(0, 0));
        DUE.is("SCRAPS", 79L * sales, x.tell(0, 1));
        DUE.is("PARTS of all NEW PRICES", 2000L * sales, x.tell(0, 4));
        NewCoins y = new NewCoins();
        y.rate(100, 100);
        y.coin(NEW, 1000);
        for (int i = 0; i < 4; i++) {
            y.till();
        }
        for (int i = 0; i < 500; i++) {
            y.sale(0, 2000, NEW, 0, 2);
        }
        DUE.is("the dearest SALES", 500, y.tell(0, 0));
        DUE.is("PARTS of their PRICES", 500L * 2000 * 100, y.tell(0, 4));
        DUE.is("PARTS of all COINS", 1000L * 1000 * 100, y.tell(0, 2));
        DUE.is("no more fit", NONE, y.sale(0, 1000, NEW, 0, 1));
    }

    /** Promise 19: "NONE: there is none such (of any)". */
    private static void hasOfNone() {
        for (int till : new int[] {-1, 2, 4, LEAST, GREATEST}) {
            RICH.is("has of TILL " + till, NONE, x -> x.has(till, NEW, 0));
        }
        for (int system : NO_SYSTEMS) {
            RICH.is("has of SYSTEM " + system, NONE, x -> x.has(0, system, 0));
        }
        for (int coin : new int[] {-1, 3, 8, LEAST, GREATEST}) {
            RICH.is("has of COIN " + coin + " of NEW", NONE, x -> x.has(0, NEW, coin));
            RICH.is("has of COIN " + coin + " of OLD", NONE, x -> x.has(0, OLD, coin));
        }
        FULL.is("has of TILL 4", NONE, x -> x.has(4, NEW, 7));
        FULL.is("has of COIN 8", NONE, x -> x.has(3, NEW, 8));
        FULL.is("has of the last COIN", 1000, x -> x.has(3, NEW, 7));
        FULL.is("has of the last COIN of OLD", 1000, x -> x.has(3, OLD, 7));
        FULL.is("has none", 0, x -> x.has(2, OLD, 7));
        NewCoins x = new NewCoins();
        x.till();
        DUE.is("no COIN yet", NONE, x.has(0, NEW, 0));
        x.coin(NEW, 4);
        DUE.is("a COIN that came after the TILL", 0, x.has(0, NEW, 0));
        DUE.is("none of OLD yet", NONE, x.has(0, OLD, 0));
    }

    /** Promise 20: "-1: there is no such TILL"; what an empty TILL and a full one are worth. */
    private static void drawOfNone() {
        for (int till : new int[] {-1, 2, 3, 4, LEAST, GREATEST}) {
            RICH.is("draw " + till, -1, x -> x.draw(till));
        }
        FULL.is("draw 4", -1, x -> x.draw(4));
        FULL.is("draw where there is nothing", 0, x -> x.draw(2));
        FULL.is("draw where there is nothing of OLD", 0, x -> x.draw(1));
        NewCoins x = full();
        DUE.is("draw 3", 1000L * 400 * 5, x.draw(3));
        DUE.is("it has none", 0, x.has(3, OLD, 7));
        DUE.is("NEW ones stay", 1000, x.has(3, NEW, 7));
        DUE.is("drawn", 1000, x.drawn(7));
        DUE.is("draw again", 0, x.draw(3));
        DUE.is("no more drawn", 1000, x.drawn(7));
        DUE.is("there is room again", 1000, x.put(3, OLD, 7, 1000));
        NewCoins y = new NewCoins();
        y.rate(100, 1);
        y.till();
        long units = 0;
        for (int i = 0; i < 8; i++) {
            y.coin(OLD, 1000 - i);
            y.put(0, OLD, i, 1000);
            units += 1000 * (1000 - i);
        }
        DUE.is("draw from a full TILL", 100 * units, y.draw(0));
        for (int i = 0; i < 8; i++) {
            DUE.is("each COIN is drawn in", 1000, y.drawn(i));
            DUE.is("none stays", 0, y.has(0, OLD, i));
        }
    }

    /** Promise 21: "NONE: there is none such". */
    private static void drawnOfNone() {
        for (int coin : new int[] {-1, 3, 8, LEAST, GREATEST}) {
            RICH.is("drawn " + coin, NONE, x -> x.drawn(coin));
        }
        FULL.is("drawn 8", NONE, x -> x.drawn(8));
        FULL.is("drawn 7", 0, x -> x.drawn(7));
        RICH.is("drawn 0", 9, x -> x.drawn(0));
        RICH.is("drawn 2", 0, x -> x.drawn(2));
        NewCoins x = new NewCoins();
        x.coin(NEW, 4);
        DUE.is("a COIN of NEW is none of OLD", NONE, x.drawn(0));
        x.coin(OLD, 4);
        DUE.is("none was drawn in", 0, x.drawn(0));
    }

    /** Promise 21: "from all TILLS", far more than a TILL can have. */
    private static void drawnInAfter512Calls() {
        NewCoins x = new NewCoins();
        x.coin(OLD, 1000);
        x.rate(100, 100);
        for (int i = 0; i < 4; i++) {
            x.till();
        }
        for (int i = 0; i < 250; i++) {
            x.put(i & 3, OLD, 0, 1000);
            DUE.is("draw", 100000000, x.draw(i & 3));
        }
        DUE.is("drawn", 250000, x.drawn(0));
        DUE.is("no TILL has any", 0, x.tell(0, 3) + x.tell(1, 3) + x.tell(2, 3) + x.tell(3, 3));
    }
}
