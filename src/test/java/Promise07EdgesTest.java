/** Promise 7: "Element i of the support; NONE when there is no key or i is not 0 .. n - 1." */
public final class Promise07EdgesTest {
    private static final int[] TOO_SMALL = {-1, -2, -16, -32, Integer.MIN_VALUE};
    private static final int[] FAR_TOO_LARGE = {32, 33, 64, 1 << 16, Integer.MAX_VALUE};

    public static void main(String[] args) {
        for (int n = 16; n <= 32; n++) {
            for (int t = 2; t <= 3; t++) {
                noKey("a new box", new GoppaLockbox(n, t));
                withKey(Known.box(n, t), n, t);
                GoppaLockbox erased = Known.box(n, t);
                erased.erase();
                noKey("an erased box", erased);
            }
        }
        fullSupport();
        zeroIsAnAnswer();
        Check.finish();
    }

    private static void noKey(String name, GoppaLockbox box) {
        Check.sentence("Promise 7: NONE when there is no key: " + name);
        for (int k = -1; k <= 32; k++) {
            int i = k;
            Check.due("support(" + i + ")", Known.NONE, () -> box.support(i));
        }
    }

    private static void withKey(GoppaLockbox box, int n, int t) {
        Check.sentence("Promise 7: elements 0 .. n - 1 of the support");
        for (int k = 0; k < n; k++) {
            int i = k;
            Check.due("support(" + i + ") of " + n, Known.support(t, i), () -> box.support(i));
        }
        Check.sentence("Promise 7: NONE when i is too small");
        for (int i : TOO_SMALL) {
            Check.due("support(" + i + ")", Known.NONE, () -> box.support(i));
        }
        Check.sentence("Promise 7: NONE when i is too large");
        Check.due("support(n) of " + n, Known.NONE, () -> box.support(n));
        Check.due("support(n + 1) of " + n, Known.NONE, () -> box.support(n + 1));
        for (int i : FAR_TOO_LARGE) {
            Check.due("support(" + i + ")", Known.NONE, () -> box.support(i));
        }
    }

    private static void fullSupport() {
        Check.sentence("Promise 7: at length 32 the support is full: each element stands in it once");
        for (int t = 2; t <= 3; t++) {
            GoppaLockbox box = Known.box(32, t);
            int seen = 0;
            for (int i = 0; i < 32; i++) {
                seen |= 1 << box.support(i);
            }
            int all = seen;
            Check.due("the elements", -1, () -> all);
        }
    }

    private static void zeroIsAnAnswer() {
        Check.sentence("Promise 7: element 0 is answered as 0");
        GoppaLockbox first = new GoppaLockbox(16, 2);
        first.attempt(216);
        Check.due("support(0)", 0, () -> first.support(0));
        GoppaLockbox last = new GoppaLockbox(32, 3);
        last.attempt(215);
        Check.due("support(31)", 0, () -> last.support(31));
    }
}
