/** Promise 1: the length and the weight are taken as the nearest in range, and there is no key. */
public final class NewObjectTest {
    private static final int[][] MADE = { // n, t, and what they are taken as
        {16, 2, 16, 2}, {32, 3, 32, 3}, {15, 1, 16, 2}, {33, 4, 32, 3}, {17, 3, 17, 3}, {31, 2, 31, 2},
        {0, 0, 16, 2}, {-1, -1, 16, 2}, {Integer.MIN_VALUE, Integer.MIN_VALUE, 16, 2},
        {Integer.MAX_VALUE, Integer.MAX_VALUE, 32, 3}, {99, 0, 32, 2}, {-7, 9, 16, 3}, {24, 3, 24, 3},
    };

    public static void main(String[] args) {
        for (int[] made : MADE) {
            isWithoutKey(new GoppaLockbox(made[0], made[1]));
            hasSize(made);
        }
        boxesAreApart();
        Check.finish();
    }

    private static void isWithoutKey(GoppaLockbox box) {
        Check.due("coefficient(0), new", -1, () -> box.coefficient(0));
        Check.due("support(0), new", -1, () -> box.support(0));
        Check.due("row(0), new", IllegalStateException.class, () -> box.row(0));
        Check.due("hide(3), new", IllegalStateException.class, () -> box.hide(3));
        Check.due("find(3), new", IllegalStateException.class, () -> box.find(3));
        Check.due("open(3), new", IllegalStateException.class, () -> box.open(3));
        Check.due("seal(3), new", IllegalStateException.class, () -> box.seal(3));
        Check.due("shared(), new", 0L, box::shared);
        Check.due("erase(), new", false, box::erase);
    }

    private static void hasSize(int[] made) {
        GoppaLockbox box = new GoppaLockbox(made[0], made[1]);
        Model model = new Model(made[2], made[3]);
        String name = " of a box " + made[0] + ", " + made[1];
        int n = made[2];
        int t = made[3];
        Check.due("search(1)" + name, model.search(1), () -> box.search(1));
        Check.due("last coefficient" + name, 1, () -> box.coefficient(t));
        Check.due("past the last coefficient" + name, -1, () -> box.coefficient(t + 1));
        Check.due("last support" + name, model.support(n - 1), () -> box.support(n - 1));
        Check.due("past the last support" + name, -1, () -> box.support(n));
        Check.due("last row" + name, model.row(5 * t - 1), () -> box.row(5 * t - 1));
        Check.due("past the last row" + name, IllegalArgumentException.class, () -> box.row(5 * t));
        Check.due("last syndrome" + name, model.open((1 << 5 * t) - 1), () -> box.open((1 << 5 * t) - 1));
        Check.due("past the last syndrome" + name, IllegalArgumentException.class, () -> box.open(1 << 5 * t));
    }

    private static void boxesAreApart() {
        GoppaLockbox one = new GoppaLockbox(20, 2);
        GoppaLockbox other = new GoppaLockbox(20, 2);
        one.search(5);
        one.seal(1);
        isWithoutKey(other);
    }
}
