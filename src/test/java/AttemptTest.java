/** Promise 4: each of the ways in which an attempt ends, and that a failed one leaves the key. */
public final class AttemptTest {
    // Coins under which two elements have one place and the polynomial has no root. The support of 16
    // holds both, one or neither of the two, in the order of these rows.
    private static final long[][] SAME_PLACE_2 = {{14226, 20179, 48706}, {186258, 638767}, {14127, 20034, 75284}};
    private static final long[][] SAME_PLACE_3 = {{14035, 48232, 48469}, {186258, 294848}, {88619, 226408, 254698}};
    // Coins under which a root and two elements of one place come together: step 1 is first.
    private static final long[] ROOT_TOO_2 = {14035, 14081};
    private static final long[] ROOT_TOO_3 = {14081, 14127};
    // Coins under which the support of 16 holds no root, but another element is one.
    private static final long[] ROOT_OUTSIDE_2 = {7, 15, 23};
    private static final long[] ROOT_OUTSIDE_3 = {2, 3, 8};

    public static void main(String[] args) {
        for (int n : new int[] {16, 24, 32}) {
            samePlaces(n, 2, SAME_PLACE_2);
            samePlaces(n, 3, SAME_PLACE_3);
            fail(n, 2, 1, ROOT_TOO_2);
            fail(n, 3, 1, ROOT_TOO_3);
            fail(n, 2, 1, ROOT_OUTSIDE_2);
            fail(n, 3, 1, ROOT_OUTSIDE_3);
        }
        for (int n = 16; n <= 32; n++) {
            likeModel(n, 2);
            likeModel(n, 3);
        }
        writtenAnswers();
        Check.finish();
    }

    private static void samePlaces(int n, int t, long[][] coins) {
        for (long[] some : coins) {
            fail(n, t, 2, some);
        }
    }

    private static void fail(int n, int t, int step, long[] coins) {
        for (long c : coins) {
            GoppaLockbox box = new GoppaLockbox(n, t);
            String name = "attempt(" + c + ") of " + n + ", " + t;
            Check.due(name, step, () -> box.attempt(c));
            Check.due(name + " leaves no key", false, box::erase);
            Model model = new Model(n, t);
            box.search(1);
            model.search(1);
            Check.due(name + " with a key", step, () -> box.attempt(c));
            Keys.same(name + " keeps the key", box, model);
        }
    }

    private static void likeModel(int n, int t) {
        long[] starts = {0, -30, Long.MAX_VALUE - 15, 1L << 40, -(1L << 50) + n};
        for (long start : starts) {
            // A box is for 512 calls: four attempts with all that can be seen after each.
            for (int k = 0; k < 32; k += 4) {
                fourAttempts(n, t, start + k);
            }
        }
    }

    private static void fourAttempts(int n, int t, long first) {
        GoppaLockbox box = new GoppaLockbox(n, t);
        Model model = new Model(n, t);
        for (int k = 0; k < 4; k++) {
            long coins = first + k;
            String name = "attempt(" + coins + ") of " + n + ", " + t;
            Check.due(name, model.attempt(coins), () -> box.attempt(coins));
            Keys.same(name, box, model);
        }
    }

    private static void writtenAnswers() {
        GoppaLockbox box = new GoppaLockbox(16, 3);
        int[] due = {1, 1, 0, 1, 3};
        for (int k = 0; k < due.length; k++) {
            long coins = 100 + k;
            Check.due("attempt(" + coins + ")", due[k], () -> box.attempt(coins));
        }
        Check.due("row(14)", 49152, () -> box.row(14));
    }
}
