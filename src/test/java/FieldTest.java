/** Promises 2 and 3: times and inverse, for every element and for what is none. */
public final class FieldTest {
    private static final int[] NO_ELEMENTS = {-1, 32, 33, 64, -32, Integer.MAX_VALUE, Integer.MIN_VALUE};

    public static void main(String[] args) {
        GoppaLockbox box = new GoppaLockbox(16, 2);
        everyProduct();
        everyInverse(box);
        wrongInputs(box);
        box.search(1);
        everyInverse(box);
        wrongInputs(box);
        Check.due("times(2, 16)", 5, () -> box.times(2, 16));
        Check.due("times(16, 16)", 13, () -> box.times(16, 16));
        Check.due("times(31, 31)", 18, () -> box.times(31, 31));
        Check.due("inverse(2)", 18, () -> box.inverse(2));
        Check.finish();
    }

    private static void everyProduct() {
        for (int i = 0; i < 32; i++) {
            GoppaLockbox box = new GoppaLockbox(16, 2);
            for (int j = 0; j < 32; j++) {
                int a = i;
                int b = j;
                Check.due("times(" + a + ", " + b + ")", Model.product(a, b), () -> box.times(a, b));
            }
        }
    }

    private static void everyInverse(GoppaLockbox box) {
        for (int i = 1; i < 32; i++) {
            int a = i;
            Check.due("inverse(" + a + ")", Model.reciprocal(a), () -> box.inverse(a));
            Check.due(a + " times its inverse", 1, () -> box.times(box.inverse(a), a));
        }
        Check.due("inverse(0)", ArithmeticException.class, () -> box.inverse(0));
    }

    private static void wrongInputs(GoppaLockbox box) {
        for (int wrong : NO_ELEMENTS) {
            Check.due("inverse(" + wrong + ")", IllegalArgumentException.class, () -> box.inverse(wrong));
            for (int right : new int[] {0, 1, 31, wrong}) {
                Check.due("times(" + wrong + ", " + right + ")", IllegalArgumentException.class,
                    () -> box.times(wrong, right));
                Check.due("times(" + right + ", " + wrong + ")", IllegalArgumentException.class,
                    () -> box.times(right, wrong));
            }
        }
    }
}
