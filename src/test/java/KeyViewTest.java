/** Promises 6, 7 and 8: coefficient, support and row, with and without a key and out of range. */
public final class KeyViewTest {
    private static final int[] FAR = {-1, -2, 33, 40, 64, Integer.MAX_VALUE, Integer.MIN_VALUE};

    public static void main(String[] args) {
        for (int n : new int[] {16, 19, 31, 32}) {
            for (int t = 2; t <= 3; t++) {
                views(n, t);
            }
        }
        writtenAnswers();
        Check.finish();
    }

    private static void views(int n, int t) {
        GoppaLockbox box = new GoppaLockbox(n, t);
        Model model = new Model(n, t);
        Keys.same("without a key", box, model);
        for (int far : FAR) {
            Check.due("row, no key and out of range", IllegalStateException.class, () -> box.row(far));
        }
        box.search(n);
        model.search(n);
        Keys.same("with a key", box, model);
        Check.due("coefficient(t)", 1, () -> box.coefficient(t));
        Check.due("coefficient(t + 1)", GoppaLockbox.NONE, () -> box.coefficient(t + 1));
        Check.due("support(n)", GoppaLockbox.NONE, () -> box.support(n));
        Check.due("row(m)", IllegalArgumentException.class, () -> box.row(5 * t));
        for (int far : FAR) {
            Check.due("coefficient(" + far + ")", -1, () -> box.coefficient(far));
            Check.due("support(" + far + ")", -1, () -> box.support(far));
            Check.due("row(" + far + ")", IllegalArgumentException.class, () -> box.row(far));
        }
        for (int r = 0; r < 5 * t; r++) {
            int unit = 1 << r;
            int left = box.row(r) & (1 << 5 * t) - 1;
            Check.due("the unit matrix in row " + r, unit, () -> left);
        }
        box.erase();
        model.erase();
        Keys.same("after erase", box, model);
    }

    private static void writtenAnswers() {
        GoppaLockbox box = new GoppaLockbox(32, 2);
        box.search(1);
        Check.due("coefficient(0)", 17, () -> box.coefficient(0));
        Check.due("support(0)", 9, () -> box.support(0));
        Check.due("support(31)", 18, () -> box.support(31));
        Check.due("row(0)", -1448639487, () -> box.row(0));
        Check.due("row(9)", -1131197952, () -> box.row(9));
    }
}
