import java.util.LinkedHashMap;
import java.util.Map;

/**
 * Two keys whose every number was worked out apart from the program and from the model: the one of weight 2
 * with coins 12, which search(1) finds, and the one of weight 3 with coins 102, which search(100) finds. They are
 * written for length 32; a shorter box has the beginning of the support and of each row, as the first m columns
 * alone settle how the rows are added.
 */
final class Known {
    static final Class<?> NO_KEY = IllegalStateException.class;
    static final Class<?> NO_ARGUMENT = IllegalArgumentException.class;
    static final Class<?> NO_ANSWER = ArithmeticException.class;
    static final int NONE = GoppaLockbox.NONE;

    static final int[] LENGTHS = {16, 17, 24, 31, 32};

    private static final long[] COINS = {12, 102};
    private static final int[][] POLYNOMIALS = {{17, 18, 1}, {20, 27, 1, 1}};
    private static final int[][] SUPPORTS = {
        {9, 28, 4, 19, 14, 29, 5, 24, 0, 15, 10, 25, 1, 20, 11, 30, 6, 21, 16, 31, 7, 26, 2, 17, 12, 27, 3, 22, 13, 8,
            23, 18},
        {29, 12, 20, 21, 7, 15, 25, 24, 2, 19, 28, 11, 14, 23, 31, 6, 0, 18, 1, 10, 27, 13, 30, 4, 5, 22, 16, 9, 8, 17,
            3, 26}};
    private static final int[][] ROWS = {
        {-1448639487, 1355144194, -1620094972, 1626058760, -426154992, -181734368, 1440645184, -689947520, 1862257920,
            -1131197952},
        {-1348141055, -1997996030, -2031714300, -669941752, 1249869840, -844333024, 1848705088, -787545984, 450035968,
            -513375744, -264469504, -731150336, -1520857088, -1847484416, 602718208}};
    // The answers to open(0) and open(1), which no pattern has: they show the secret.
    private static final long[][] OPENED = {
        {6252378224636139442L, 6252378255342338926L}, {2758267333381341940L, 2758267338433197609L}};

    private Known() {
    }

    static long coins(int t) {
        return COINS[t - 2];
    }

    static GoppaLockbox box(int n, int t) {
        GoppaLockbox box = new GoppaLockbox(n, t);
        box.attempt(coins(t));
        return box;
    }

    static int coefficient(int t, int i) {
        return POLYNOMIALS[t - 2][i];
    }

    static int support(int t, int i) {
        return SUPPORTS[t - 2][i];
    }

    static int row(int n, int t, int r) {
        int row = ROWS[t - 2][r];
        return n == 32 ? row : row & (1 << n) - 1;
    }

    static long opened(int t, int syndrome) {
        return OPENED[t - 2][syndrome];
    }

    /** What seen(box) is to be for a box that has this key. */
    static Map<String, Object> key(int n, int t, long shared) {
        Map<String, Object> due = new LinkedHashMap<>();
        for (int i = -1; i <= 32; i++) {
            due.put("coefficient(" + i + ")", i >= 0 && i <= t ? coefficient(t, i) : NONE);
            due.put("support(" + i + ")", i >= 0 && i < n ? support(t, i) : NONE);
            due.put("row(" + i + ")", i >= 0 && i < 5 * t ? row(n, t, i) : NO_ARGUMENT);
        }
        due.put("open(0)", opened(t, 0));
        due.put("open(1)", opened(t, 1));
        due.put("shared()", shared);
        return due;
    }

    static Map<String, Object> noKey(long shared) {
        Map<String, Object> due = new LinkedHashMap<>();
        for (int i = -1; i <= 32; i++) {
            due.put("coefficient(" + i + ")", NONE);
            due.put("support(" + i + ")", NONE);
            due.put("row(" + i + ")", NO_KEY);
        }
        due.put("open(0)", NO_KEY);
        due.put("open(1)", NO_KEY);
        due.put("shared()", shared);
        return due;
    }

    /** All that can be seen of a box's state, by 105 calls that change nothing. */
    static Map<String, Object> seen(GoppaLockbox box) {
        Map<String, Object> seen = new LinkedHashMap<>();
        for (int k = -1; k <= 32; k++) {
            int i = k;
            seen.put("coefficient(" + i + ")", Check.outcome(() -> box.coefficient(i)));
            seen.put("support(" + i + ")", Check.outcome(() -> box.support(i)));
            seen.put("row(" + i + ")", Check.outcome(() -> box.row(i)));
        }
        seen.put("open(0)", Check.outcome(() -> box.open(0)));
        seen.put("open(1)", Check.outcome(() -> box.open(1)));
        seen.put("shared()", Check.outcome(box::shared));
        return seen;
    }
}
