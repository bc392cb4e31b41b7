/** Promise 14: "The key is taken away. Answers whether there was one." */
public final class Promise14EdgesTest {
    public static void main(String[] args) {
        for (int n : Known.LENGTHS) {
            for (int t = 2; t <= 3; t++) {
                noKey(n, t);
                withKey(n, t);
                again(n, t);
                failuresBringNothingBack(n, t);
            }
        }
        Check.finish();
    }

    private static void noKey(int n, int t) {
        Check.sentence("Promise 14: answers whether there was one: a new box has none");
        GoppaLockbox box = new GoppaLockbox(n, t);
        Check.due("erase()", false, box::erase);
        Check.due("erase() again", false, box::erase);
        Check.due("all", Known.noKey(0), () -> Known.seen(box));
        Check.sentence("Promise 14: a box that was erased without a key takes one");
        Check.due("attempt", 0, () -> box.attempt(Known.coins(t)));
        Check.due("all", Known.key(n, t, 0), () -> Known.seen(box));
        Check.due("erase()", true, box::erase);
    }

    private static void withKey(int n, int t) {
        Check.sentence("Promise 14: the key is taken away, and nothing else");
        GoppaLockbox box = Known.box(n, t);
        box.seal(5);
        long shared = box.shared();
        Check.due("erase()", true, box::erase);
        Check.due("all", Known.noKey(shared), () -> Known.seen(box));
        int right = t == 2 ? 3 : 7;
        Check.due("hide", Known.NO_KEY, () -> box.hide(right));
        Check.due("find", Known.NO_KEY, () -> box.find(right));
        Check.due("seal", Known.NO_KEY, () -> box.seal(5));
        Check.due("open", Known.NO_KEY, () -> box.open(right));
        Check.due("times", 5, () -> box.times(2, 16));
        Check.due("inverse", 18, () -> box.inverse(2));
        Check.sentence("Promise 14: answers whether there was one: after an erase there is none");
        Check.due("erase()", false, box::erase);
        Check.due("erase() again", false, box::erase);
        Check.due("all", Known.noKey(shared), () -> Known.seen(box));
    }

    private static void again(int n, int t) {
        Check.sentence("Promise 14: a key made after an erase is whole, and can be taken away again");
        GoppaLockbox box = Known.box(n, t);
        box.erase();
        Check.due("search", 0, () -> box.search(Known.coins(t)));
        Check.due("all", Known.key(n, t, 0), () -> Known.seen(box));
        Check.due("erase()", true, box::erase);
        Check.due("erase() again", false, box::erase);
        box.attempt(t == 2 ? 216 : 33);
        box.attempt(Known.coins(t));
        Check.due("erase() after two keys", true, box::erase);
        Check.due("the first of the two is not there", false, box::erase);
        Check.due("all", Known.noKey(0), () -> Known.seen(box));
        Check.sentence("Promise 14: a key made after an erase stays when attempts after it fail");
        GoppaLockbox second = Known.box(n, t);
        second.erase();
        second.attempt(Known.coins(t));
        for (long coins : failing(t)) {
            second.attempt(coins);
            Check.due("all after attempt(" + coins + ")", Known.key(n, t, 0), () -> Known.seen(second));
        }
    }

    /** Coins with which an attempt fails with 1, with 2 and with 3. */
    private static long[] failing(int t) {
        return t == 2 ? new long[] {7870, 82903, 1936} : new long[] {54, 82903, 41525};
    }

    private static void failuresBringNothingBack(int n, int t) {
        Check.sentence("Promise 14: answers whether there was one: failed attempts bring none back");
        GoppaLockbox box = Known.box(n, t);
        box.erase();
        for (long coins : failing(t)) {
            box.attempt(coins);
            Check.due("erase() after attempt(" + coins + ")", false, box::erase);
        }
        Check.due("search, all fail", Known.NO_ANSWER, () -> box.search(t == 2 ? 116640986 : 21439));
        Check.due("erase() after it", false, box::erase);
        Check.sentence("Promise 14: answers whether there was one: failed attempts leave the one there was");
        GoppaLockbox kept = Known.box(n, t);
        kept.attempt(t == 2 ? 7870 : 54);
        Check.due("search, all fail", Known.NO_ANSWER, () -> kept.search(t == 2 ? 116640986 : 21439));
        Check.due("erase()", true, kept::erase);
    }
}
