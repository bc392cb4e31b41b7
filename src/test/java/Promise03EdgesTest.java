/** Promise 3: "The inverse of an element. IllegalArgumentException: a is none; ArithmeticException: a is 0." */
public final class Promise03EdgesTest {
    private static final int[] INVERSES_FROM_1 = {1, 18, 28, 9, 23, 14, 12, 22, 4, 25, 16, 7, 15, 6, 13, 11, 24, 2, 29,
        30, 26, 8, 5, 17, 10, 21, 31, 3, 19, 20, 27};
    private static final int[] TOO_SMALL = {-1, -2, -31, -32, Integer.MIN_VALUE};
    private static final int[] TOO_LARGE = {32, 33, 63, 64, 1 << 30, Integer.MAX_VALUE};

    public static void main(String[] args) {
        for (GoppaLockbox box : new GoppaLockbox[] {new GoppaLockbox(16, 2), Known.box(32, 3)}) {
            Check.sentence("Promise 3: the inverse of each element from 1 to 31");
            for (int k = 1; k < 32; k++) {
                int a = k;
                Check.due("inverse(" + a + ")", INVERSES_FROM_1[a - 1], () -> box.inverse(a));
                Check.due(a + " times its inverse", 1, () -> box.times(a, box.inverse(a)));
            }
            Check.sentence("Promise 3: ArithmeticException: a is 0");
            Check.due("inverse(0)", Known.NO_ANSWER, () -> box.inverse(0));
            // Those whose lower five bits are 0 are refused as no elements, not as 0.
            Check.sentence("Promise 3: IllegalArgumentException: a is none, too small");
            for (int wrong : TOO_SMALL) {
                Check.due("inverse(" + wrong + ")", Known.NO_ARGUMENT, () -> box.inverse(wrong));
            }
            Check.sentence("Promise 3: IllegalArgumentException: a is none, too large");
            for (int wrong : TOO_LARGE) {
                Check.due("inverse(" + wrong + ")", Known.NO_ARGUMENT, () -> box.inverse(wrong));
            }
        }
        Check.finish();
    }
}
