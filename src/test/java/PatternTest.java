import java.util.Map;

/** Promises 9 and 10: hide and find, over every pattern and many syndromes, and with wrong inputs. */
public final class PatternTest {
    // A box is for 512 calls; hide and find of this many patterns, or as many syndromes, stay below that.
    private static final int PER_BOX = 250;

    public static void main(String[] args) {
        for (int n : new int[] {16, 21, 31, 32}) {
            for (int t = 2; t <= 3; t++) {
                withoutKey(new GoppaLockbox(n, t));
                Model model = new Model(n, t);
                model.search(200 + n);
                everyPattern(model);
                everySyndrome(model);
                GoppaLockbox box = likeModel(model);
                wrongPatterns(box, n, t);
                wrongSyndromes(box, t);
                Keys.same("hide and find change nothing", box, model);
            }
        }
        Check.finish();
    }

    private static GoppaLockbox likeModel(Model model) {
        GoppaLockbox box = new GoppaLockbox(model.n, model.t);
        box.search(200 + model.n);
        return box;
    }

    private static void withoutKey(GoppaLockbox box) {
        for (int number : new int[] {0, 1, 3, 7, -1, 1 << 15, Integer.MIN_VALUE, Integer.MAX_VALUE}) {
            Check.due("hide without a key", IllegalStateException.class, () -> box.hide(number));
            Check.due("find without a key", IllegalStateException.class, () -> box.find(number));
        }
    }

    private static void everyPattern(Model model) {
        GoppaLockbox fresh = likeModel(model);
        int count = 0;
        for (Map.Entry<Integer, Integer> entry : model.key.patterns().entrySet()) {
            if (++count % PER_BOX == 0) {
                fresh = likeModel(model);
            }
            GoppaLockbox box = fresh;
            int syndrome = entry.getKey();
            int pattern = entry.getValue();
            Check.due("hide(" + pattern + ")", syndrome, () -> box.hide(pattern));
            Check.due("find(" + syndrome + ")", pattern, () -> box.find(syndrome));
        }
    }

    private static void wrongPatterns(GoppaLockbox box, int n, int t) {
        int most = 1 << n - 1;
        int[] wrong = {0, 1, most, -1, t == 2 ? 7 : 3, 15, most | 1 | (t == 2 ? 2 : 0), Integer.MAX_VALUE};
        for (int pattern : wrong) {
            Check.due("hide(" + pattern + ") of weight " + t, IllegalArgumentException.class,
                () -> box.hide(pattern));
        }
        for (int bit = n; bit < 32; bit++) {
            int pattern = 1 << bit | (t == 2 ? 1 : 3);
            Check.due("hide(" + pattern + ") of length " + n, IllegalArgumentException.class,
                () -> box.hide(pattern));
        }
    }

    private static void everySyndrome(Model model) {
        GoppaLockbox fresh = likeModel(model);
        for (int number = 0; number < 1 << model.m; number++) {
            if (number % PER_BOX == 0) {
                fresh = likeModel(model);
            }
            GoppaLockbox box = fresh;
            int syndrome = number;
            Check.due("find(" + syndrome + ")", Check.outcome(() -> model.find(syndrome)),
                () -> box.find(syndrome));
        }
    }

    private static void wrongSyndromes(GoppaLockbox box, int t) {
        int end = 1 << 5 * t;
        for (int number : new int[] {end, end + 3, end + 7, -1, -end, Integer.MAX_VALUE, Integer.MIN_VALUE}) {
            Check.due("find(" + number + ")", IllegalArgumentException.class, () -> box.find(number));
        }
    }
}
