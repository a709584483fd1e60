/**
 * Each sentence that names a boundary in promises 26 and 27: the number at the edge, the number beyond
 * it, and that a refused call changes nothing.
 */
public final class EdgesOfImagesTest {
    private static final int LEAST = Integer.MIN_VALUE;
    private static final int GREATEST = Integer.MAX_VALUE;
    private static final int[] NO_IMAGES = {-1, 3, 4, LEAST, GREATEST};
    private static final Due DUE = new Due();
    private static final Refused FRESH = new Refused(DUE, "fresh", Scenes::fresh);
    private static final Refused RICH = new Refused(DUE, "rich", Scenes::rich);
    private static final Refused FULL = new Refused(DUE, "full", Scenes::full);

    public static void main(String[] args) {
        imageOfAnotherNumber();
        imageOfEach();
        againWhereThereIsNone();
        againOfEach();
        otherImagesStay();
        imageInTheSamePlace();
        againToNothingAndToAll();
        limitsAfterAgain();
        DUE.end();
    }

    /** Promise 26: "false for another k". */
    private static void imageOfAnotherNumber() {
        for (int k : NO_IMAGES) {
            FRESH.is("image " + k, false, x -> x.image(k));
            RICH.is("image " + k, false, x -> x.image(k));
            FULL.is("image " + k, false, x -> x.image(k));
        }
    }

    /** Promise 26: "Image k (0 .. 2)". */
    private static void imageOfEach() {
        for (int k = 0; k < 3; k++) {
            NewCoins x = new NewCoins();
            DUE.is("image " + k, true, x.image(k));
            for (int other = 0; other < 3; other++) {
                DUE.is("there is image " + other, other == k, x.again(other));
            }
        }
    }

    /** Promise 27: "false if there is none such". */
    private static void againWhereThereIsNone() {
        for (int k : NO_IMAGES) {
            FRESH.is("again " + k, false, x -> x.again(k));
            RICH.is("again " + k, false, x -> x.again(k));
            FULL.is("again " + k, false, x -> x.again(k));
        }
        // the rich land has images 0 and 2
        RICH.is("again 1", false, x -> x.again(1));
        for (int k = 0; k < 3; k++) {
            int image = k;
            FRESH.is("again " + k + " of a new object", false, x -> x.again(image));
        }
        NewCoins x = new NewCoins();
        x.image(0);
        x.step(5);
        x.again(0);
        DUE.is("again brings no other image", false, x.again(1));
    }

    /** Promise 27: "All that is as image k has it", for each k. */
    private static void againOfEach() {
        for (int k = 0; k < 3; k++) {
            NewCoins x = new NewCoins();
            Scenes.full(x);
            DUE.is("again " + k, true, x.again(k));
            NewCoins y = new NewCoins();
            y.rate(3 + k, 4);
            DUE.same("image " + k, Told.of(y), Told.of(x));
        }
    }

    /** Promise 27: "(other images stay)". */
    private static void otherImagesStay() {
        int[][] orders = {{0, 1, 2}, {2, 1, 0}, {1, 1, 0, 2}, {2, 0, 2, 1}};
        for (int[] order : orders) {
            NewCoins x = new NewCoins();
            Scenes.full(x);
            for (int k : order) {
                DUE.is("again " + k, true, x.again(k));
                DUE.is("a of image " + k, 3 + k, x.about(2, 2));
                DUE.is("what comes then is not in an image", true, x.rate(99, 98));
                DUE.is("nor a COIN", 0, x.coin(1, 5));
            }
        }
    }

    /** Promise 26: an image "as it is now" takes the place of that which was there. */
    private static void imageInTheSamePlace() {
        NewCoins x = new NewCoins();
        Scenes.rich(x);
        DUE.is("image 2", true, x.image(2));
        x.again(0);
        DUE.is("nothing was in image 0", 0, x.about(0, 0));
        x.again(2);
        NewCoins y = new NewCoins();
        Scenes.rich(y);
        DUE.same("the later image 2", Told.of(y), Told.of(x));
    }

    /** Promise 27 from a full land to one with nothing, and back. */
    private static void againToNothingAndToAll() {
        NewCoins x = new NewCoins();
        x.image(0);
        Scenes.full(x);
        x.image(1);
        NewCoins empty = new NewCoins();
        empty.rate(3, 4);
        DUE.is("again 0", true, x.again(0));
        DUE.same("nothing", Told.of(empty), Told.of(x));
        NewCoins back = new NewCoins();
        Scenes.full(back);
        back.image(1);
        back.again(0);
        DUE.is("again 1", true, back.again(1));
        NewCoins full = new NewCoins();
        Scenes.full(full);
        DUE.same("all", Told.of(full), Told.of(back));
    }

    /** Promise 27: what was full is not, and what was not is, as the image has it. */
    private static void limitsAfterAgain() {
        NewCoins x = new NewCoins();
        Scenes.full(x);
        x.image(2);
        DUE.is("again 0", true, x.again(0));
        DUE.is("room for a COIN", 0, x.coin(1, 3));
        DUE.is("of OLD", 0, x.coin(0, 2));
        DUE.is("room for a GOOD", 0, x.good(1, 1));
        DUE.is("room for a TILL", 0, x.till());
        DUE.is("which has nothing", 0, x.tell(0, 2));
        DUE.is("no SALE was", true, x.rate(9, 8));
        DUE.is("room for an EXPECTED SALE", 1, x.expect(0, 3, 1, 0, 1));
        DUE.is("again 2", true, x.again(2));
        DUE.is("no room for a COIN", NewCoins.NONE, x.coin(1, 3));
        DUE.is("nor one of OLD", NewCoins.NONE, x.coin(0, 3));
        DUE.is("nor a GOOD", NewCoins.NONE, x.good(1, 1));
        DUE.is("nor a TILL", NewCoins.NONE, x.till());
        DUE.is("a SALE was", false, x.rate(9, 8));
        DUE.is("no room for an EXPECTED SALE", NewCoins.NONE, x.expect(3, 3, 1, 0, 1));
        DUE.is("nor for a COIN in the TILL", NewCoins.NONE, x.put(3, 1, 7, 1));
    }
}
