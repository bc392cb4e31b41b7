/**
 * Promises 11, 12 and 13: seal, shared and open. No coins have fewer than t different numbers among seal's 64, so
 * that exception is not tested (Promise11EdgesTest says why).
 */
public final class SharedKeyTest {
    public static void main(String[] args) {
        for (int n = 16; n <= 32; n++) {
            for (int t = 2; t <= 3; t++) {
                GoppaLockbox box = new GoppaLockbox(n, t);
                Model model = new Model(n, t);
                withoutKey(box, 0L);
                box.search(300 + n);
                model.search(300 + n);
                sealAndOpen(box, model);
                openAny(model);
                latestSealStays(box, model);
            }
        }
        writtenAnswers();
        bitThirtyOne();
        Check.finish();
    }

    private static void withoutKey(GoppaLockbox box, long shared) {
        for (int number : new int[] {0, 3, -1, 1 << 15, Integer.MIN_VALUE, Integer.MAX_VALUE}) {
            Check.due("open without a key", IllegalStateException.class, () -> box.open(number));
            Check.due("seal without a key", IllegalStateException.class, () -> box.seal(number));
        }
        Check.due("shared() without a key", shared, box::shared);
    }

    private static void sealAndOpen(GoppaLockbox box, Model model) {
        long[] coins = {0, 1, 2, 5, -1, -1000, 1L << 32, Long.MAX_VALUE, Long.MIN_VALUE, 15, 20, 34};
        for (long c : coins) {
            int syndrome = model.seal(c);
            Check.due("seal(" + c + ")", syndrome, () -> box.seal(c));
            Check.due("shared()", model.shared, box::shared);
            Check.due("open of what was sealed", model.shared, () -> box.open(syndrome));
            Check.due("shared() again", model.shared, box::shared);
        }
    }

    private static void openAny(Model model) {
        int end = 1 << model.m;
        GoppaLockbox fresh = likeModel(model);
        int count = 0;
        for (int number = 0; number < end; number += 1 + number / 100) {
            if (++count % 400 == 0) {
                fresh = likeModel(model);
            }
            GoppaLockbox box = fresh;
            int syndrome = number;
            Check.due("open(" + syndrome + ")", model.open(syndrome), () -> box.open(syndrome));
        }
        GoppaLockbox box = likeModel(model);
        box.seal(7);
        long shared = box.shared();
        Check.due("open of the last", model.open(end - 1), () -> box.open(end - 1));
        for (int number : new int[] {end, end + 3, -1, -end, Integer.MAX_VALUE, Integer.MIN_VALUE}) {
            Check.due("open(" + number + ")", IllegalArgumentException.class, () -> box.open(number));
        }
        Check.due("open changes nothing shared", shared, box::shared);
    }

    private static GoppaLockbox likeModel(Model model) {
        GoppaLockbox box = new GoppaLockbox(model.n, model.t);
        box.search(300 + model.n);
        return box;
    }

    private static void latestSealStays(GoppaLockbox box, Model model) {
        long shared = model.shared;
        box.search(900);
        model.search(900);
        Keys.same("another key", box, model);
        Check.due("shared() under another key", shared, box::shared);
        box.erase();
        withoutKey(box, shared);
        box.search(901);
        model.search(901);
        Check.due("shared() after a new key", shared, box::shared);
        Check.due("seal(6)", model.seal(6), () -> box.seal(6));
        Check.due("shared() is the latest", model.shared, box::shared);
    }

    private static void writtenAnswers() {
        GoppaLockbox box = new GoppaLockbox(32, 2);
        box.search(1);
        Check.due("seal(5)", 767, () -> box.seal(5));
        Check.due("shared()", -3283502502371919870L, box::shared);
        Check.due("open(767)", -3283502502371919870L, () -> box.open(767));
        Check.due("open(3), with a pattern", 1242516251888612527L, () -> box.open(3));
        Check.due("open(5), without one", -5648460276874395737L, () -> box.open(5));
    }

    /** A pattern is an int: with bit 31 it is negative, and so is the long that is hashed. */
    private static void bitThirtyOne() {
        GoppaLockbox box = new GoppaLockbox(32, 2);
        box.search(1);
        int syndrome = box.seal(15);
        Check.due("the pattern of seal(15)", Integer.MIN_VALUE + 4, () -> box.find(syndrome));
        long due = Model.hash(Model.hash(1, -2147483644L), syndrome);
        Check.due("shared() with bit 31", due, box::shared);
        Check.due("open with bit 31", due, () -> box.open(syndrome));
    }
}
