/**
 * Promise 8: "Row r of the public matrix: bit i is what stands in column i. IllegalStateException: there is no
 * key; IllegalArgumentException: r is not 0 .. m - 1."
 */
public final class Promise08EdgesTest {
    private static final int[] TOO_SMALL = {-1, -2, -10, -15, -32, Integer.MIN_VALUE};
    private static final int[] FAR_TOO_LARGE = {16, 31, 32, 64, 1 << 16, Integer.MAX_VALUE};

    public static void main(String[] args) {
        for (int n = 16; n <= 32; n++) {
            for (int t = 2; t <= 3; t++) {
                noKey("a new box", new GoppaLockbox(n, t), t);
                withKey(Known.box(n, t), n, t);
                outOfRange(Known.box(n, t), t);
                GoppaLockbox erased = Known.box(n, t);
                erased.erase();
                noKey("an erased box", erased, t);
            }
        }
        Check.finish();
    }

    private static void noKey(String name, GoppaLockbox box, int t) {
        Check.sentence("Promise 8: IllegalStateException: there is no key: " + name);
        for (int k = 0; k < 5 * t; k++) {
            int r = k;
            Check.due("row(" + r + ")", Known.NO_KEY, () -> box.row(r));
        }
        Check.sentence("Promise 8: no key is named before r out of its range: " + name);
        Check.due("row(m)", Known.NO_KEY, () -> box.row(5 * t));
        for (int r : TOO_SMALL) {
            Check.due("row(" + r + ")", Known.NO_KEY, () -> box.row(r));
        }
        for (int r : FAR_TOO_LARGE) {
            Check.due("row(" + r + ")", Known.NO_KEY, () -> box.row(r));
        }
    }

    private static void withKey(GoppaLockbox box, int n, int t) {
        int m = 5 * t;
        Check.sentence("Promise 8: rows 0 .. m - 1");
        for (int k = 0; k < m; k++) {
            int r = k;
            Check.due("row(" + r + ") of " + n, Known.row(n, t, r), () -> box.row(r));
        }
        Check.sentence("Promise 8: columns 0 .. m - 1 are those of the unit matrix");
        for (int k = 0; k < m; k++) {
            int r = k;
            Check.due("the first columns of row " + r, 1 << r, () -> box.row(r) & (1 << m) - 1);
        }
        if (n == 32) {
            Check.sentence("Promise 8: column 31 is bit 31");
            Check.due("bit 31 of row 0", 1, () -> box.row(0) >>> 31);
            Check.due("bit 31 of another row", 0, () -> box.row(t == 2 ? 1 : 4) >>> 31);
        } else {
            Check.sentence("Promise 8: no bit stands behind column n - 1");
            for (int k = 0; k < m; k++) {
                int r = k;
                Check.due("the bits from n on in row " + r, 0, () -> box.row(r) >>> n);
            }
        }
    }

    private static void outOfRange(GoppaLockbox box, int t) {
        Check.sentence("Promise 8: IllegalArgumentException: r is too small");
        for (int r : TOO_SMALL) {
            Check.due("row(" + r + ")", Known.NO_ARGUMENT, () -> box.row(r));
        }
        Check.sentence("Promise 8: IllegalArgumentException: r is too large");
        Check.due("row(m)", Known.NO_ARGUMENT, () -> box.row(5 * t));
        Check.due("row(m + 1)", Known.NO_ARGUMENT, () -> box.row(5 * t + 1));
        for (int r : FAR_TOO_LARGE) {
            Check.due("row(" + r + ")", Known.NO_ARGUMENT, () -> box.row(r));
        }
    }
}
