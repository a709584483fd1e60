import java.util.Map;

/** Promises 26 (image) and 27 (again). */
public final class ImagesTest {
    private static final int NONE = NewCoins.NONE;
    private static final Due DUE = new Due();

    public static void main(String[] args) {
        numbersOfImages();
        allThatIsToldComesBack();
        imagesStay();
        whatCameLaterIsGone();
        twoLandsInTurn();
        sumsComeBack();
        changeAfterAgain();
        DUE.end();
    }

    private static void numbersOfImages() {
        NewCoins x = new NewCoins();
        for (int k : new int[] {-1, 3, Integer.MIN_VALUE, Integer.MAX_VALUE}) {
            DUE.is("image " + k, false, x.image(k));
            DUE.is("again " + k, false, x.again(k));
        }
        for (int k = 0; k < 3; k++) {
            DUE.is("no image yet " + k, false, x.again(k));
            DUE.is("image " + k, true, x.image(k));
            DUE.is("again " + k, true, x.again(k));
        }
    }

    private static NewCoins rich() {
        NewCoins x = new NewCoins();
        makeRich(x);
        return x;
    }

    private static void makeRich(NewCoins x) {
        x.rate(5, 12);
        x.step(5);
        x.coin(0, 12);
        x.coin(0, 30);
        x.coin(1, 1);
        x.coin(1, 7);
        x.good(100, 10);
        x.good(77, 20);
        x.till();
        x.till();
        x.put(0, 0, 0, 9);
        x.put(0, 1, 0, 90);
        x.put(1, 0, 1, 3);
        x.put(1, 1, 1, 50);
        x.draw(0);
        x.sale(0, 3, 0, 1, 1);
        x.sale(1, 7, 1, 1, 3);
        x.expect(0, 3, 1, 1, 1);
        x.expect(1, 4, 1, 1, 2);
    }

    private static void upset(NewCoins x) {
        x.step(9);
        x.coin(0, 77);
        x.coin(1, 3);
        x.good(5, 5);
        x.sold(0, 1);
        x.till();
        x.put(0, 0, 0, 17);
        x.put(2, 0, 2, 5);
        x.sale(0, 1, 1, 1, 5);
        x.sale(1, 1, 1, 1, 5);
        x.sale(2, 3, 1, 2, 1);
        x.draw(1);
        x.draw(2);
        x.expect(0, 9, 1, 1, 4);
        x.expect(2, 9, 1, 1, 4);
        x.forget(1);
    }

    private static void allThatIsToldComesBack() {
        Map<String, Long> before = Told.of(rich());
        NewCoins x = rich();
        x.image(1);
        upset(x);
        DUE.is("all is upset", false, before.equals(Told.of(x)));
        DUE.is("again", true, x.again(1));
        // A new object for each time that all is told, so that none is asked more often than 512 times.
        NewCoins once = rich();
        once.image(1);
        upset(once);
        once.again(1);
        DUE.same("as it was", before, Told.of(once));
        NewCoins twice = rich();
        twice.image(1);
        upset(twice);
        twice.again(1);
        upset(twice);
        twice.again(1);
        DUE.same("as it was, once more", before, Told.of(twice));
    }

    private static void imagesStay() {
        NewCoins x = new NewCoins();
        x.image(0);
        x.step(2);
        x.image(1);
        x.step(3);
        x.image(2);
        x.step(4);
        DUE.is("again 1", true, x.again(1));
        DUE.is("STEP of image 1", 2, x.about(2, 4));
        DUE.is("again 2", true, x.again(2));
        DUE.is("STEP of image 2", 3, x.about(2, 4));
        DUE.is("again 0", true, x.again(0));
        DUE.is("STEP of image 0", 1, x.about(2, 4));
        DUE.is("image 2 is still there", true, x.again(2));
        DUE.is("STEP of image 2 again", 3, x.about(2, 4));
        x.image(0);
        x.again(1);
        x.again(0);
        DUE.is("a later image 0 is in its place", 3, x.about(2, 4));
    }

    private static void whatCameLaterIsGone() {
        NewCoins x = new NewCoins();
        x.image(0);
        DUE.is("rate", true, x.rate(7, 9));
        x.coin(0, 5);
        x.coin(1, 5);
        x.good(9, 9);
        x.till();
        x.put(0, 0, 0, 5);
        x.put(0, 1, 0, 5);
        x.draw(0);
        x.put(0, 0, 0, 5);
        x.sale(0, 5, 1, 0, 2);
        x.expect(0, 5, 1, 0, 2);
        x.again(0);
        DUE.is("till", 0, x.till());
        DUE.is("coin of OLD", 0, x.coin(0, 6));
        DUE.is("coin of NEW", 0, x.coin(1, 6));
        NewCoins y = new NewCoins();
        y.till();
        y.coin(0, 6);
        y.coin(1, 6);
        DUE.same("a TILL and COINS in the old places", Told.of(y), Told.of(x));
        DUE.is("rate, as no SALE was", true, x.rate(2, 2));
    }

    /** Like rich(), but with another number in each place. */
    private static void becomeAnother(NewCoins x) {
        x.rate(7, 9);
        x.step(3);
        x.coin(0, 40);
        x.coin(0, 11);
        x.coin(1, 2);
        x.coin(1, 9);
        x.good(41, 30);
        x.good(999, 1);
        x.till();
        x.till();
        x.put(0, 0, 0, 5);
        x.put(0, 1, 0, 80);
        x.put(0, 1, 1, 80);
        x.put(1, 0, 1, 6);
        x.put(1, 1, 1, 70);
        x.draw(0);
        x.sale(0, 9, 0, 0, 1);
        x.sale(0, 4, 0, 0, 1);
        x.sale(1, 9, 1, 1, 4);
        x.expect(0, 5, 0, 0, 3);
        x.expect(1, 1, 1, 1, 7);
    }

    private static void twoLandsInTurn() {
        NewCoins another = new NewCoins();
        becomeAnother(another);
        Map<String, Long> first = Told.of(another);
        Map<String, Long> second = Told.of(rich());
        DUE.same("the second land", second, Told.of(inTurn()));
        DUE.same("the first land", first, Told.of(inTurn(1)));
        DUE.same("the second land again", second, Told.of(inTurn(1, 2)));
        DUE.same("the first land again", first, Told.of(inTurn(1, 2, 1)));
    }

    /** Has one land as image 1 and another as image 2, and goes to some of them in turn. */
    private static NewCoins inTurn(int... images) {
        NewCoins x = new NewCoins();
        x.image(0);
        becomeAnother(x);
        x.image(1);
        x.again(0);
        makeRich(x);
        x.image(2);
        for (int k : images) {
            x.again(k);
        }
        return x;
    }

    private static void changeAfterAgain() {
        NewCoins x = new NewCoins();
        x.coin(1, 10);
        x.coin(1, 1);
        x.till();
        x.put(0, 1, 1, 9);
        x.image(0);
        x.coin(1, 3);
        x.put(0, 1, 2, 9);
        DUE.is("with threes", 9, x.sale(0, 1, 1, 0, 1));
        DUE.is("three of them", 3, x.given(0, 2));
        x.again(0);
        DUE.is("without threes", 9, x.sale(0, 1, 1, 0, 1));
        DUE.is("a COIN in its place", 2, x.coin(1, 4));
        DUE.is("none of it was given", 0, x.given(0, 2));
        DUE.is("the TILL has none of it", 0, x.has(0, 1, 2));
        DUE.is("PARTS of the TILL", 10, x.tell(0, 2));
    }

    private static void sumsComeBack() {
        NewCoins x = new NewCoins();
        x.coin(1, 4);
        x.coin(1, 1);
        x.image(2);
        x.coin(1, 3);
        DUE.is("6 with a three", 2, x.fewest(1, 6, NONE));
        DUE.is("odd with a three", 6, x.odd(1));
        x.again(2);
        DUE.is("6 without", 3, x.fewest(1, 6, NONE));
        DUE.is("odd without", NONE, x.odd(1));
        DUE.is("another COIN in its place", 2, x.coin(1, 5));
        DUE.is("8 with a five", 2, x.fewest(1, 8, NONE));
        DUE.is("greedy for 8", 4, x.greedy(1, 8));
        DUE.is("odd with a five", 8, x.odd(1));
    }
}
