import java.util.Map;

/** Counts the answers that are not the ones that are due, and prints each of them. */
final class Due {
    private int asked = 0;
    private int wrong = 0;

    void is(String call, long want, long got) {
        asked++;
        if (got != want) {
            wrong++;
            System.out.println(call + " answered " + got + ", due is " + want);
        }
    }

    void is(String call, boolean want, boolean got) {
        asked++;
        if (got != want) {
            wrong++;
            System.out.println(call + " answered " + got + ", due is " + want);
        }
    }

    /** Each answer of what is told once must be that of what is told at another time. */
    void same(String what, Map<String, Long> want, Map<String, Long> got) {
        is(what + ", questions", want.size(), got.size());
        for (Map.Entry<String, Long> w : want.entrySet()) {
            is(what + ", " + w.getKey(), w.getValue(), got.getOrDefault(w.getKey(), Long.MIN_VALUE));
        }
    }

    boolean anyWrong() {
        return wrong > 0;
    }

    /** The last line of each test's main. */
    void end() {
        System.out.println(asked + " answers, " + wrong + " wrong");
        if (wrong > 0 || asked == 0) {
            System.exit(1);
        }
    }
}
