/** Promise 5: the first attempt that makes a key, 64 at most, with coins that wrap. */
public final class SearchTest {
    // With t = 3 the attempts with 21439 .. 21502 all fail, and the one with 21503 makes a key.
    private static final long LONG_GAP = 21439;

    public static void main(String[] args) {
        for (int n : new int[] {16, 23, 32}) {
            edgeOfTheLimit(n);
            for (int t = 2; t <= 3; t++) {
                firstKey(n, t);
            }
        }
        Check.due("search(1)", 11, () -> new GoppaLockbox(32, 2).search(1));
        Check.due("search(100)", 2, () -> new GoppaLockbox(16, 3).search(100));
        Check.due("search(-5)", 2, () -> new GoppaLockbox(32, 2).search(-5));
        Check.due("search at the wrap", 13, () -> new GoppaLockbox(32, 2).search(Long.MAX_VALUE));
        Check.finish();
    }

    private static void edgeOfTheLimit(int n) {
        GoppaLockbox box = new GoppaLockbox(n, 3);
        Check.due("search, all fail", ArithmeticException.class, () -> box.search(LONG_GAP));
        Check.due("no key after that", false, box::erase);

        Model model = new Model(n, 3);
        box.search(100);
        model.search(100);
        Check.due("seal", model.seal(4), () -> box.seal(4));
        Check.due("search, all fail, with a key", ArithmeticException.class, () -> box.search(LONG_GAP));
        Keys.same("the key stays", box, model);

        Check.due("search, 63 fail", 63, () -> box.search(LONG_GAP + 1));
        model.attempt(LONG_GAP + 64);
        Keys.same("the key of the 64th", box, model);
        Check.due("search, none fails", 0, () -> box.search(LONG_GAP + 64));
        Keys.same("the same key again", box, model);
    }

    private static void firstKey(int n, int t) {
        firstKeys(n, t, 0, 1, -1, -7);
        firstKeys(n, t, 77, 5000, Long.MIN_VALUE, Long.MAX_VALUE);
        firstKeys(n, t, Long.MAX_VALUE - 1, 1L << 33, -(1L << 33), 14);
    }

    private static void firstKeys(int n, int t, long... someCoins) {
        GoppaLockbox box = new GoppaLockbox(n, t);
        Model model = new Model(n, t);
        for (long coins : someCoins) {
            String name = "search(" + coins + ") of " + n + ", " + t;
            Check.due(name, Check.outcome(() -> model.search(coins)), () -> box.search(coins));
            Keys.same(name, box, model);
        }
    }
}
