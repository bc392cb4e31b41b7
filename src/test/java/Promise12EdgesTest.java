/** Promise 12: "What was shared by the latest seal of this box, under whatever key that was; 0 when there was none." */
public final class Promise12EdgesTest {
    private static final long AFTER_SEAL_0 = 3028154627082260632L;
    private static final long AFTER_SEAL_5 = -4608664870894870879L;

    public static void main(String[] args) {
        none();
        refusedSeals();
        otherKeys();
        otherBox();
        Check.finish();
    }

    private static GoppaLockbox sealed() {
        GoppaLockbox box = Known.box(16, 2);
        box.seal(5);
        return box;
    }

    private static void none() {
        Check.sentence("Promise 12: 0 when there was none: a new box");
        GoppaLockbox box = new GoppaLockbox(16, 2);
        Check.due("shared()", 0L, box::shared);
        Check.sentence("Promise 12: 0 when there was none: a box with a key, and then erased");
        box.attempt(12);
        Check.due("shared() with a key", 0L, box::shared);
        box.open(3);
        Check.due("shared() after open", 0L, box::shared);
        box.hide(3);
        Check.due("shared() after hide", 0L, box::shared);
        box.erase();
        Check.due("shared(), erased", 0L, box::shared);
        Check.sentence("Promise 12: 0 when there was none: a seal that is refused is none");
        Check.due("seal(5)", Known.NO_KEY, () -> box.seal(5));
        Check.due("shared()", 0L, box::shared);
    }

    private static void refusedSeals() {
        Check.sentence("Promise 12: the latest seal: a refused one after it changes nothing");
        GoppaLockbox box = sealed();
        Check.due("shared()", AFTER_SEAL_5, box::shared);
        box.erase();
        Check.due("shared(), erased", AFTER_SEAL_5, box::shared);
        Check.due("seal(0), erased", Known.NO_KEY, () -> box.seal(0));
        Check.due("shared() after it", AFTER_SEAL_5, box::shared);
        Check.due("shared() once more", AFTER_SEAL_5, box::shared);
    }

    private static void otherKeys() {
        Check.sentence("Promise 12: under whatever key that was: another key came");
        GoppaLockbox box = sealed();
        box.attempt(216);
        Check.due("shared() after attempt", AFTER_SEAL_5, box::shared);
        box.search(1);
        Check.due("shared() after search", AFTER_SEAL_5, box::shared);
        Check.sentence("Promise 12: under whatever key that was: attempts and searches failed");
        for (long coins : new long[] {7870, 82903, 1936}) {
            box.attempt(coins);
            Check.due("shared() after attempt(" + coins + ")", AFTER_SEAL_5, box::shared);
        }
        Check.due("search, all fail", Known.NO_ANSWER, () -> box.search(116640986));
        Check.due("shared() after it", AFTER_SEAL_5, box::shared);
        Check.sentence("Promise 12: under whatever key that was: it was erased and another one made");
        box.erase();
        box.attempt(216);
        Check.due("shared()", AFTER_SEAL_5, box::shared);
        box.erase();
        box.attempt(12);
        Check.sentence("Promise 12: the latest seal: another one after it");
        Check.due("seal(0)", 686, () -> box.seal(0));
        Check.due("shared()", AFTER_SEAL_0, box::shared);
        Check.sentence("Promise 12: opening what others sealed is no seal");
        box.open(180);
        box.open(0);
        Check.due("shared()", AFTER_SEAL_0, box::shared);
    }

    private static void otherBox() {
        Check.sentence("Promise 12: of this box: another one's seal has no part in it");
        GoppaLockbox box = sealed();
        GoppaLockbox other = Known.box(16, 2);
        Check.due("shared() of the other", 0L, other::shared);
        other.seal(0);
        Check.due("shared() of the other, sealed", AFTER_SEAL_0, other::shared);
        Check.due("shared()", AFTER_SEAL_5, box::shared);
    }
}
