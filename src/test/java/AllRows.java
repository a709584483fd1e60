import java.util.Arrays;

/** Walks through all rows of COINS that make a sum, and keeps the one that the document asks for. */
final class AllRows {
    private final int[] values;
    private final int[] limits;
    private final Integer[] byValue;
    private final int[] row;
    private int[] best = null;

    private AllRows(int[] values, int[] limits) {
        this.values = values;
        this.limits = limits;
        this.row = new int[values.length];
        this.byValue = new Integer[values.length];
        for (int i = 0; i < values.length; i++) {
            byValue[i] = i;
        }
        Arrays.sort(byValue, (x, y) -> values[y] - values[x]);
    }

    /** How many of each COIN, or null if no row makes the sum; limits null: as many as one likes. */
    static int[] best(int[] values, int[] limits, int sum) {
        AllRows all = new AllRows(values, limits);
        all.walk(0, sum);
        return all.best;
    }

    static int coinsIn(int[] row) {
        return Arrays.stream(row).sum();
    }

    private void walk(int coin, int left) {
        if (coin == values.length) {
            if (left == 0 && (best == null || isBetter())) {
                best = row.clone();
            }
            return;
        }
        for (int n = 0; n * values[coin] <= left && (limits == null || n <= limits[coin]); n++) {
            row[coin] = n;
            walk(coin + 1, left - n * values[coin]);
        }
        row[coin] = 0;
    }

    private boolean isBetter() {
        if (coinsIn(row) != coinsIn(best)) {
            return coinsIn(row) < coinsIn(best);
        }
        for (int coin : byValue) {
            if (row[coin] != best[coin]) {
                return row[coin] > best[coin];
            }
        }
        return false;
    }
}
