/** Promises 9 and 10: hide and find, over every pattern and many syndromes, and with wrong inputs. */
public final class PatternTest {
    public static void main(String[] args) {
        for (int n : new int[] {16, 21, 31, 32}) {
            for (int t = 2; t <= 3; t++) {
                GoppaLockbox box = new GoppaLockbox(n, t);
                Model model = new Model(n, t);
                withoutKey(box);
                box.search(200 + n);
                model.search(200 + n);
                everyPattern(box, model);
                wrongPatterns(box, n, t);
                everySyndrome(box, model);
                wrongSyndromes(box, t);
                Keys.same("hide and find change nothing", box, model);
            }
        }
        Check.finish();
    }

    private static void withoutKey(GoppaLockbox box) {
        for (int number : new int[] {0, 1, 3, 7, -1, 1 << 15, Integer.MIN_VALUE, Integer.MAX_VALUE}) {
            Check.due("hide without a key", IllegalStateException.class, () -> box.hide(number));
            Check.due("find without a key", IllegalStateException.class, () -> box.find(number));
        }
    }

    private static void everyPattern(GoppaLockbox box, Model model) {
        model.key.patterns().forEach((syndrome, pattern) -> {
            Check.due("hide(" + pattern + ")", syndrome, () -> box.hide(pattern));
            Check.due("find(" + syndrome + ")", pattern, () -> box.find(syndrome));
        });
    }

    private static void wrongPatterns(GoppaLockbox box, int n, int t) {
        int most = 1 << n - 1;
        int[] wrong = {0, 1, most, -1, t == 2 ? 7 : 3, 15, most | 1 | (t == 2 ? 2 : 0), Integer.MAX_VALUE};
        for (int pattern : wrong) {
            Check.due("hide(" + pattern + ") of weight " + t, IllegalArgumentException.class,
                () -> box.hide(pattern));
        }
        for (int bit = n; bit < 32; bit++) {
            int pattern = 1 << bit | (t == 2 ? 1 : 3);
            Check.due("hide(" + pattern + ") of length " + n, IllegalArgumentException.class,
                () -> box.hide(pattern));
        }
    }

    private static void everySyndrome(GoppaLockbox box, Model model) {
        for (int number = 0; number < 1 << model.m; number++) {
            int syndrome = number;
            Check.due("find(" + syndrome + ")", Check.outcome(() -> model.find(syndrome)),
                () -> box.find(syndrome));
        }
        Check.due("find(0)", ArithmeticException.class, () -> box.find(0));
        Check.due("find(1)", ArithmeticException.class, () -> box.find(1));
    }

    private static void wrongSyndromes(GoppaLockbox box, int t) {
        int end = 1 << 5 * t;
        for (int number : new int[] {end, end + 3, end + 7, -1, -end, Integer.MAX_VALUE, Integer.MIN_VALUE}) {
            Check.due("find(" + number + ")", IllegalArgumentException.class, () -> box.find(number));
        }
    }
}
