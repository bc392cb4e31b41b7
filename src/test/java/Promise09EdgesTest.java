/**
 * Promise 9: "The syndrome of a pattern. IllegalStateException: there is no key; IllegalArgumentException: it is no
 * pattern of weight t."
 */
public final class Promise09EdgesTest {
    public static void main(String[] args) {
        knownSyndromes();
        for (int n = 16; n <= 32; n++) {
            for (int t = 2; t <= 3; t++) {
                noKey("a new box", new GoppaLockbox(n, t), n, t);
                GoppaLockbox erased = Known.box(n, t);
                erased.erase();
                noKey("an erased box", erased, n, t);
                withinUnitMatrix(Known.box(n, t), t);
                wrongWeight(Known.box(n, t), n, t);
                wrongBits(Known.box(n, t), n, t);
            }
        }
        Check.finish();
    }

    private static void knownSyndromes() {
        Check.sentence("Promise 9: the syndromes of the lowest bits, the highest bits, and both ends of the pattern");
        due(16, 2, 3, 3);
        due(16, 2, 0b11 << 14, 605);
        due(16, 2, 1 << 15 | 1, 362);
        due(16, 3, 7, 7);
        due(16, 3, 0b111 << 13, 7740);
        due(16, 3, 1 << 15 | 3, 32319);
        due(32, 2, 3, 3);
        due(32, 3, 7, 7);
        Check.sentence("Promise 9: at length 32 bit 31 may be 1");
        due(32, 2, 0b11 << 30, 847);
        due(32, 2, 1 << 31 | 1, 692);
        due(32, 3, 0b111 << 29, 26134);
        due(32, 3, 1 << 31 | 3, 16044);
    }

    private static void due(int n, int t, int pattern, int syndrome) {
        GoppaLockbox box = Known.box(n, t);
        Check.due("hide(" + pattern + ") of " + n + ", " + t, syndrome, () -> box.hide(pattern));
    }

    private static void noKey(String name, GoppaLockbox box, int n, int t) {
        int right = t == 2 ? 3 : 7;
        Check.sentence("Promise 9: IllegalStateException: there is no key: " + name);
        Check.due("hide(" + right + ")", Known.NO_KEY, () -> box.hide(right));
        Check.sentence("Promise 9: no key is named before no pattern of weight t: " + name);
        for (int wrong : new int[] {0, 1, 15, -1, right << n - 1, Integer.MIN_VALUE, Integer.MAX_VALUE}) {
            Check.due("hide(" + wrong + ")", Known.NO_KEY, () -> box.hide(wrong));
        }
    }

    private static void withinUnitMatrix(GoppaLockbox box, int t) {
        Check.sentence("Promise 9: bit r of the syndrome is row r: patterns within the columns 0 .. m - 1");
        int bits = t == 2 ? 3 : 7;
        for (int k = 0; k <= 5 * t - t; k++) {
            int pattern = bits << k;
            Check.due("hide(" + pattern + ")", pattern, () -> box.hide(pattern));
        }
    }

    private static void wrongWeight(GoppaLockbox box, int n, int t) {
        Check.sentence("Promise 9: IllegalArgumentException: the weight is 0");
        refused(box, 0);
        Check.sentence("Promise 9: IllegalArgumentException: the weight is t - 1");
        refused(box, t == 2 ? 1 : 3);
        refused(box, (t == 2 ? 1 : 3) << n - t + 1);
        Check.sentence("Promise 9: IllegalArgumentException: the weight is t + 1");
        refused(box, t == 2 ? 7 : 15);
        refused(box, (t == 2 ? 7 : 15) << n - t - 1);
        refused(box, 1 << n - 1 | (t == 2 ? 3 : 7));
        Check.sentence("Promise 9: IllegalArgumentException: every bit is 1");
        refused(box, n == 32 ? -1 : (1 << n) - 1);
        refused(box, -1);
    }

    private static void wrongBits(GoppaLockbox box, int n, int t) {
        Check.sentence("Promise 9: bit n - 1 may be 1");
        int low = t == 2 ? 1 : 3;
        Check.holds("hide with bit n - 1 answers", Check.outcome(() -> box.hide(low | 1 << n - 1)) instanceof Integer);
        if (n < 32) {
            Check.sentence("Promise 9: IllegalArgumentException: of t bits one is n or above it");
            for (int bit = n; bit < 32; bit++) {
                refused(box, low | 1 << bit);
            }
            Check.sentence("Promise 9: IllegalArgumentException: t bits within, and others above");
            refused(box, (t == 2 ? 3 : 7) | 1 << n);
            refused(box, (t == 2 ? 3 : 7) | 1 << 31);
        }
    }

    private static void refused(GoppaLockbox box, int pattern) {
        Check.due("hide(" + pattern + ")", Known.NO_ARGUMENT, () -> box.hide(pattern));
    }
}
