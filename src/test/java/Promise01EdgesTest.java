/** Promise 1: "a number out of its range is taken as the nearest one in it", "without a key". */
public final class Promise01EdgesTest {
    private static final int[] TOO_SMALL_LENGTHS = {15, 14, 2, 1, 0, -1, -16, -17, -32, Integer.MIN_VALUE};
    private static final int[] TOO_LARGE_LENGTHS = {33, 34, 48, 64, 1 << 16, Integer.MAX_VALUE};
    private static final int[] TOO_SMALL_WEIGHTS = {1, 0, -1, -2, -3, Integer.MIN_VALUE};
    private static final int[] TOO_LARGE_WEIGHTS = {4, 5, 6, 32, Integer.MAX_VALUE};

    public static void main(String[] args) {
        Check.sentence("Promise 1: a length too small is taken as 16");
        for (int n : TOO_SMALL_LENGTHS) {
            isTakenAs(n, 2, 16, 2);
            isTakenAs(n, 3, 16, 3);
        }
        Check.sentence("Promise 1: a length too large is taken as 32");
        for (int n : TOO_LARGE_LENGTHS) {
            isTakenAs(n, 2, 32, 2);
            isTakenAs(n, 3, 32, 3);
        }
        Check.sentence("Promise 1: a weight too small is taken as 2");
        for (int t : TOO_SMALL_WEIGHTS) {
            isTakenAs(16, t, 16, 2);
            isTakenAs(32, t, 32, 2);
        }
        Check.sentence("Promise 1: a weight too large is taken as 3");
        for (int t : TOO_LARGE_WEIGHTS) {
            isTakenAs(16, t, 16, 3);
            isTakenAs(32, t, 32, 3);
        }
        bothOutOfRange();
        Check.sentence("Promise 1: a length and a weight in their ranges stay");
        for (int n = 16; n <= 32; n++) {
            isTakenAs(n, 2, n, 2);
            isTakenAs(n, 3, n, 3);
        }
        Check.sentence("Promise 1: without a key");
        for (int n : new int[] {Integer.MIN_VALUE, 15, 16, 24, 32, 33, Integer.MAX_VALUE}) {
            for (int t = 1; t <= 4; t++) {
                GoppaLockbox box = new GoppaLockbox(n, t);
                Check.due("all of a new box", Known.noKey(0), () -> Known.seen(box));
                Check.due("erase() of a new box", false, box::erase);
            }
        }
        Check.finish();
    }

    private static void bothOutOfRange() {
        Check.sentence("Promise 1: both numbers out of their ranges");
        isTakenAs(15, 1, 16, 2);
        isTakenAs(15, 4, 16, 3);
        isTakenAs(33, 1, 32, 2);
        isTakenAs(33, 4, 32, 3);
        isTakenAs(Integer.MIN_VALUE, Integer.MAX_VALUE, 16, 3);
        isTakenAs(Integer.MAX_VALUE, Integer.MIN_VALUE, 32, 2);
    }

    private static void isTakenAs(int madeLength, int madeWeight, int n, int t) {
        GoppaLockbox box = new GoppaLockbox(madeLength, madeWeight);
        String name = " of a box " + madeLength + ", " + madeWeight;
        Check.due("attempt" + name, 0, () -> box.attempt(Known.coins(t)));
        Check.due("all" + name, Known.key(n, t, 0), () -> Known.seen(box));
        int low = t == 2 ? 1 : 3;
        Check.holds("hide with bit n - 1" + name + " answers",
            Check.outcome(() -> box.hide(low | 1 << n - 1)) instanceof Integer);
        if (n < 32) {
            Check.due("hide with bit n" + name, Known.NO_ARGUMENT, () -> box.hide(low | 1 << n));
        }
        Check.due("find(2^m)" + name, Known.NO_ARGUMENT, () -> box.find(1 << 5 * t));
    }
}
