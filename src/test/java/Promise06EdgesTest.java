/** Promise 6: "The coefficient of the polynomial with x^i; NONE when there is no key or i is not 0 .. t." */
public final class Promise06EdgesTest {
    private static final int[] TOO_SMALL = {-1, -2, -3, -32, Integer.MIN_VALUE};
    private static final int[] FAR_TOO_LARGE = {5, 31, 32, 64, 1 << 16, Integer.MAX_VALUE};

    public static void main(String[] args) {
        for (int n : Known.LENGTHS) {
            for (int t = 2; t <= 3; t++) {
                noKey("a new box", new GoppaLockbox(n, t), t);
                withKey(Known.box(n, t), t);
                GoppaLockbox erased = Known.box(n, t);
                erased.erase();
                noKey("an erased box", erased, t);
            }
        }
        zeroIsAnAnswer();
        Check.finish();
    }

    private static void noKey(String name, GoppaLockbox box, int t) {
        Check.sentence("Promise 6: NONE when there is no key: " + name);
        for (int k = -1; k <= t + 1; k++) {
            int i = k;
            Check.due("coefficient(" + i + ")", Known.NONE, () -> box.coefficient(i));
        }
    }

    private static void withKey(GoppaLockbox box, int t) {
        Check.sentence("Promise 6: the coefficients with x^0 .. x^t, the last of them 1");
        for (int k = 0; k <= t; k++) {
            int i = k;
            Check.due("coefficient(" + i + ")", Known.coefficient(t, i), () -> box.coefficient(i));
        }
        Check.due("coefficient(t)", 1, () -> box.coefficient(t));
        Check.sentence("Promise 6: NONE when i is too small");
        for (int i : TOO_SMALL) {
            Check.due("coefficient(" + i + ")", Known.NONE, () -> box.coefficient(i));
        }
        Check.sentence("Promise 6: NONE when i is too large");
        Check.due("coefficient(t + 1)", Known.NONE, () -> box.coefficient(t + 1));
        for (int i : FAR_TOO_LARGE) {
            Check.due("coefficient(" + i + ")", Known.NONE, () -> box.coefficient(i));
        }
    }

    private static void zeroIsAnAnswer() {
        Check.sentence("Promise 6: a coefficient that is 0 is answered as 0");
        GoppaLockbox box = new GoppaLockbox(20, 3);
        box.attempt(31);
        Check.due("coefficient(2)", 0, () -> box.coefficient(2));
        box.attempt(316);
        Check.due("coefficient(1)", 0, () -> box.coefficient(1));
    }
}
