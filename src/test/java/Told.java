import java.util.LinkedHashMap;
import java.util.Map;

/**
 * All that is told of an object: each question with its answer. It takes fewer than 300 calls, so
 * that an object which was asked for up to 200 before stays within the document's 512.
 */
final class Told {
    private static final int NONE = NewCoins.NONE;
    private static final int[] SUMS = {0, 1, 2, 3, 6, 13, 14, 60, 999, 1000, 1999, 2000};

    private final NewCoins x;
    private final Map<String, Long> answers = new LinkedHashMap<>();

    private Told(NewCoins x) {
        this.x = x;
    }

    static Map<String, Long> of(NewCoins x) {
        Told told = new Told(x);
        told.land();
        for (int till = 0; till < 4; till++) {
            told.till(till);
        }
        for (int system = 0; system < 2; system++) {
            told.sums(system);
        }
        return told.answers;
    }

    private void land() {
        for (int system = 0; system < 2; system++) {
            about(system, 0, 0);
            about(system, 10, 17);
        }
        about(2, 0, 4);
        about(2, 10, 23);
        about(2, 30, 43);
        for (int rule = 0; rule < 4; rule++) {
            answers.put("gain " + rule, x.gain(rule));
        }
        answers.put("fairest", (long) x.fairest());
        for (int coin = 0; coin < 8; coin++) {
            answers.put("drawn " + coin, (long) x.drawn(coin));
        }
    }

    private void about(int system, int first, int last) {
        for (int what = first; what <= last; what++) {
            answers.put("about " + system + " " + what, (long) x.about(system, what));
        }
    }

    private void till(int till) {
        for (int what = 0; what < 6; what++) {
            answers.put("tell " + till + " " + what, x.tell(till, what));
        }
        for (int coin = 0; coin < 8; coin++) {
            String of = till + " " + coin;
            answers.put("has of OLD " + of, (long) x.has(till, 0, coin));
            answers.put("has of NEW " + of, (long) x.has(till, 1, coin));
            answers.put("given " + of, (long) x.given(till, coin));
            answers.put("wanted " + of, (long) x.wanted(till, coin));
        }
    }

    private void sums(int system) {
        answers.put("odd " + system, (long) x.odd(system));
        for (int sum : SUMS) {
            String of = system + " " + sum;
            answers.put("fewest " + of, (long) x.fewest(system, sum, NONE));
            answers.put("greedy " + of, (long) x.greedy(system, sum));
        }
    }
}
