import java.util.ArrayList;
import java.util.List;
import java.util.Map;
import java.util.function.Consumer;
import java.util.function.Predicate;
import java.util.function.ToLongFunction;

/**
 * Calls that change nothing, on a scene: each is due to answer so, and to leave all that is told and
 * all that the images have as they were.
 */
final class Refused {
    /** Looks at what is now, not at an image. */
    private static final int NOW = -1;
    private static final int IMAGES = 3;

    private final Due due;
    private final String name;
    private final Consumer<NewCoins> scene;
    private final List<Map<String, Long>> before = new ArrayList<>();

    Refused(Due due, String name, Consumer<NewCoins> scene) {
        this.due = due;
        this.name = name;
        this.scene = scene;
        for (int image = NOW; image < IMAGES; image++) {
            before.add(look(made(), image));
        }
    }

    void is(String call, long want, ToLongFunction<NewCoins> asked) {
        for (int image = NOW; image < IMAGES; image++) {
            // A new object for each look, so that none is asked more often than it may be.
            NewCoins x = made();
            due.is(name + ": " + call, want, asked.applyAsLong(x));
            due.same(name + ", image " + image + " after " + call, before.get(image + 1),
                    look(x, image));
        }
    }

    void is(String call, boolean want, Predicate<NewCoins> asked) {
        is(call, want ? 1L : 0L, x -> asked.test(x) ? 1 : 0);
    }

    private NewCoins made() {
        NewCoins x = new NewCoins();
        scene.accept(x);
        return x;
    }

    private static Map<String, Long> look(NewCoins x, int image) {
        boolean there = image == NOW || x.again(image);
        Map<String, Long> told = Told.of(x);
        told.put("again", there ? 1L : 0L);
        return told;
    }
}
