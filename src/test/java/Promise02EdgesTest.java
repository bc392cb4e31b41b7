/** Promise 2: "The product of two elements. IllegalArgumentException: a or b is none." */
public final class Promise02EdgesTest {
    private static final int[] TOO_SMALL = {-1, -2, -31, -32, Integer.MIN_VALUE, Integer.MIN_VALUE + 1};
    private static final int[] TOO_LARGE = {32, 33, 37, 63, 64, 256, 1 << 16, Integer.MAX_VALUE};
    private static final int[] ELEMENTS = {0, 1, 2, 16, 30, 31};
    private static final int[][] WITHOUT_REMAINDER = {
        {1, 1, 1}, {2, 8, 16}, {4, 4, 16}, {15, 2, 30}, {3, 3, 5}, {7, 7, 21}};
    private static final int[][] WITH_REMAINDER = {
        {2, 16, 5}, {4, 8, 5}, {16, 16, 13}, {31, 31, 18}, {31, 2, 27}, {31, 16, 6}, {2, 18, 1}, {30, 17, 8}};

    public static void main(String[] args) {
        for (GoppaLockbox box : new GoppaLockbox[] {new GoppaLockbox(16, 2), Known.box(32, 3)}) {
            products(box);
            none(box);
        }
        Check.finish();
    }

    private static void products(GoppaLockbox box) {
        Check.sentence("Promise 2: the product with element 0 is 0, with element 1 it is the other");
        for (int a = 0; a < 32; a++) {
            due(box, a, 0, 0);
            due(box, a, 1, a);
        }
        Check.sentence("Promise 2: a product below x^5 is its own remainder");
        for (int[] row : WITHOUT_REMAINDER) {
            due(box, row[0], row[1], row[2]);
        }
        Check.sentence("Promise 2: the remainder by x^5 + x^2 + 1, from x^5 up to x^8");
        for (int[] row : WITH_REMAINDER) {
            due(box, row[0], row[1], row[2]);
        }
    }

    private static void due(GoppaLockbox box, int a, int b, int product) {
        Check.due("times(" + a + ", " + b + ")", product, () -> box.times(a, b));
        Check.due("times(" + b + ", " + a + ")", product, () -> box.times(b, a));
    }

    private static void none(GoppaLockbox box) {
        Check.sentence("Promise 2: IllegalArgumentException: a or b is none, too small");
        for (int wrong : TOO_SMALL) {
            refused(box, wrong);
        }
        Check.sentence("Promise 2: IllegalArgumentException: a or b is none, too large");
        for (int wrong : TOO_LARGE) {
            refused(box, wrong);
        }
        Check.sentence("Promise 2: IllegalArgumentException: neither a nor b is an element");
        Check.due("times(-1, 32)", Known.NO_ARGUMENT, () -> box.times(-1, 32));
        Check.due("times(32, -1)", Known.NO_ARGUMENT, () -> box.times(32, -1));
        Check.due("times(-1, -1)", Known.NO_ARGUMENT, () -> box.times(-1, -1));
        Check.due("times(32, 32)", Known.NO_ARGUMENT, () -> box.times(32, 32));
    }

    private static void refused(GoppaLockbox box, int wrong) {
        for (int right : ELEMENTS) {
            Check.due("times(" + wrong + ", " + right + ")", Known.NO_ARGUMENT, () -> box.times(wrong, right));
            Check.due("times(" + right + ", " + wrong + ")", Known.NO_ARGUMENT, () -> box.times(right, wrong));
        }
    }
}
