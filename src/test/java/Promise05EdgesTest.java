/**
 * Promise 5: "Attempts with coins, coins + 1, coins + 2, .. (wrapping), until one makes a key, 64 at most. Answers
 * how many failed before it. ArithmeticException: all 64 failed."
 */
public final class Promise05EdgesTest {
    // These coins make a key; the 64 before them fail, and the ones before those 64 make a key too.
    private static final long AFTER_64_OF_WEIGHT_2 = 116641050;
    private static final long AFTER_64_OF_WEIGHT_3 = 21503;

    public static void main(String[] args) {
        for (int n : Known.LENGTHS) {
            limit(n, 2, AFTER_64_OF_WEIGHT_2);
            limit(n, 3, AFTER_64_OF_WEIGHT_3);
            noneFails(n);
            everyFailureCounts(n);
            wraps(n);
            keyInstead(n);
        }
        Check.finish();
    }

    private static void limit(int n, int t, long makesKey) {
        Check.sentence("Promise 5: 64 at most: 63 fail and the 64th makes a key");
        GoppaLockbox last = Known.box(n, t);
        GoppaLockbox same = new GoppaLockbox(n, t);
        Check.due("search, 63 fail", 63, () -> last.search(makesKey - 63));
        Check.due("attempt", 0, () -> same.attempt(makesKey));
        Check.due("the 64th one's key", Known.seen(same), () -> Known.seen(last));

        Check.sentence("Promise 5: ArithmeticException: all 64 failed, without a key");
        GoppaLockbox empty = new GoppaLockbox(n, t);
        Check.due("search, 64 fail", Known.NO_ANSWER, () -> empty.search(makesKey - 64));
        Check.due("all", Known.noKey(0), () -> Known.seen(empty));
        Check.due("erase()", false, empty::erase);

        Check.sentence("Promise 5: ArithmeticException: all 64 failed, and the key stays");
        GoppaLockbox box = Known.box(n, t);
        box.seal(5);
        long shared = box.shared();
        Check.due("search, 64 fail", Known.NO_ANSWER, () -> box.search(makesKey - 64));
        Check.due("all", Known.key(n, t, shared), () -> Known.seen(box));
        Check.due("search, 64 fail again", Known.NO_ANSWER, () -> box.search(makesKey - 64));

        Check.sentence("Promise 5: until one makes a key: the first one does, and 64 would fail behind it");
        Check.due("search", 0, () -> box.search(makesKey - 65));
    }

    private static void noneFails(int n) {
        Check.sentence("Promise 5: answers how many failed before it: none");
        for (int t = 2; t <= 3; t++) {
            int weight = t;
            GoppaLockbox box = new GoppaLockbox(n, t);
            Check.due("search", 0, () -> box.search(Known.coins(weight)));
            Check.due("its key", Known.key(n, t, 0), () -> Known.seen(box));
            Check.due("search again", 0, () -> box.search(Known.coins(weight)));
            Check.due("its key again", Known.key(n, t, 0), () -> Known.seen(box));
        }
    }

    private static void everyFailureCounts(int n) {
        Check.sentence("Promise 5: answers how many failed before it, with 1, 2 or 3");
        due(n, 2, 1, 11);
        due(n, 2, 10, 2);
        due(n, 2, 14226, 1);
        due(n, 2, 186258, 22);
        due(n, 2, 1936, 1);
        due(n, 3, 100, 2);
        due(n, 3, 14035, 1);
        due(n, 3, 294848, 1);
        due(n, 3, 41525, 14);
    }

    private static void wraps(int n) {
        Check.sentence("Promise 5: coins + 1 wraps behind the greatest long");
        due(n, 2, Long.MAX_VALUE, 13);
        due(n, 2, Long.MAX_VALUE - 1, 14);
        due(n, 2, Long.MAX_VALUE - 2, 15);
        due(n, 2, Long.MAX_VALUE - 3, 0);
        due(n, 2, Long.MIN_VALUE, 12);
        due(n, 3, Long.MAX_VALUE, 5);
        due(n, 3, Long.MAX_VALUE - 8, 13);
        due(n, 3, Long.MAX_VALUE - 9, 0);
        due(n, 3, Long.MIN_VALUE, 4);
        Check.sentence("Promise 5: the key is that of the coins behind the wrap");
        sameKey(n, 2, Long.MAX_VALUE, Long.MIN_VALUE + 12);
        sameKey(n, 3, Long.MAX_VALUE - 8, Long.MIN_VALUE + 4);
        Check.sentence("Promise 5: coins from below 0 to above it");
        due(n, 2, -1, 13);
        sameKey(n, 2, -1, 12);
        due(n, 3, -1, 5);
        sameKey(n, 3, -1, 4);
    }

    private static void due(int n, int t, long coins, int failed) {
        GoppaLockbox box = new GoppaLockbox(n, t);
        Check.due("search(" + coins + ") of " + n + ", " + t, failed, () -> box.search(coins));
    }

    private static void sameKey(int n, int t, long searched, long attempted) {
        GoppaLockbox one = new GoppaLockbox(n, t);
        GoppaLockbox other = new GoppaLockbox(n, t);
        one.search(searched);
        Check.due("attempt(" + attempted + ")", 0, () -> other.attempt(attempted));
        Check.due("the key of search(" + searched + ")", Known.seen(other), () -> Known.seen(one));
    }

    private static void keyInstead(int n) {
        Check.sentence("Promise 5: the key that is made stands instead of the one before");
        GoppaLockbox two = new GoppaLockbox(n, 2);
        two.attempt(216);
        Check.due("search(1)", 11, () -> two.search(1));
        Check.due("its key", Known.key(n, 2, 0), () -> Known.seen(two));
        GoppaLockbox three = new GoppaLockbox(n, 3);
        three.attempt(33);
        Check.due("search(100)", 2, () -> three.search(100));
        Check.due("its key", Known.key(n, 3, 0), () -> Known.seen(three));
    }
}
