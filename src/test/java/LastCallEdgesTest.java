/**
 * What it is: "An object is used for at most 512 calls after it has been made": the 512th is still answered as
 * promised, for each of the promises 2 to 14, after calls of all kinds and after 511 of the longest kind.
 */
public final class LastCallEdgesTest {
    private static final int CALLS = 512;
    private static final long SHARED = -3283502502371919870L;
    private static final long ALL_FAIL = 116640986;

    private interface BoxCall {
        Object answer(GoppaLockbox box);
    }

    public static void main(String[] args) {
        field();
        attempts();
        views();
        patterns();
        sharedKeys();
        longestCalls();
        Check.finish();
    }

    /** A box of length 32 and weight 2 after 511 calls, with the known key and a seal, or erased after them. */
    private static GoppaLockbox used(boolean hasKey) {
        GoppaLockbox box = new GoppaLockbox(32, 2);
        for (int k = 0; k < CALLS - 4; k++) {
            anyCall(box, k);
        }
        box.attempt(12);
        box.seal(5);
        if (hasKey) {
            box.times(1, 1);
        } else {
            box.erase();
        }
        return box;
    }

    private static Object anyCall(GoppaLockbox box, int k) {
        return switch (k % 13) {
            case 0 -> box.search(k);
            case 1 -> box.attempt(k);
            case 2 -> box.coefficient(k % 4);
            case 3 -> box.support(k % 34);
            case 4 -> box.row(k % 10);
            case 5 -> box.hide(3 << k % 30);
            case 6 -> Check.outcome(() -> box.find(k));
            case 7 -> box.seal(k);
            case 8 -> box.shared();
            case 9 -> Check.outcome(() -> box.open(k * 3));
            case 10 -> Check.outcome(() -> box.times(k, k));
            case 11 -> Check.outcome(() -> box.inverse(k % 33));
            default -> box.erase();
        };
    }

    private static void last(String name, Object due, BoxCall call) {
        GoppaLockbox box = used(true);
        Check.due("call 512, " + name, due, () -> call.answer(box));
    }

    private static void lastWithoutKey(String name, Object due, BoxCall call) {
        GoppaLockbox box = used(false);
        Check.due("call 512 without a key, " + name, due, () -> call.answer(box));
    }

    private static void field() {
        Check.sentence("Promise 2: times as call 512");
        last("times(31, 31)", 18, box -> box.times(31, 31));
        last("times(32, 0)", Known.NO_ARGUMENT, box -> box.times(32, 0));
        Check.sentence("Promise 3: inverse as call 512");
        last("inverse(31)", 27, box -> box.inverse(31));
        last("inverse(0)", Known.NO_ANSWER, box -> box.inverse(0));
        last("inverse(-1)", Known.NO_ARGUMENT, box -> box.inverse(-1));
    }

    private static void attempts() {
        Check.sentence("Promise 4: attempt as call 512");
        last("attempt(216)", 0, box -> box.attempt(216));
        last("attempt(7870)", 1, box -> box.attempt(7870));
        last("attempt(82903)", 2, box -> box.attempt(82903));
        last("attempt(1936)", 3, box -> box.attempt(1936));
        Check.sentence("Promise 5: search as call 512");
        last("search(1)", 11, box -> box.search(1));
        last("search, 63 fail", 63, box -> box.search(ALL_FAIL + 1));
        last("search, 64 fail", Known.NO_ANSWER, box -> box.search(ALL_FAIL));
    }

    private static void views() {
        Check.sentence("Promise 6: coefficient as call 512");
        last("coefficient(0)", 17, box -> box.coefficient(0));
        last("coefficient(3)", Known.NONE, box -> box.coefficient(3));
        lastWithoutKey("coefficient(0)", Known.NONE, box -> box.coefficient(0));
        Check.sentence("Promise 7: support as call 512");
        last("support(31)", 18, box -> box.support(31));
        last("support(32)", Known.NONE, box -> box.support(32));
        lastWithoutKey("support(31)", Known.NONE, box -> box.support(31));
        Check.sentence("Promise 8: row as call 512");
        last("row(9)", -1131197952, box -> box.row(9));
        last("row(10)", Known.NO_ARGUMENT, box -> box.row(10));
        lastWithoutKey("row(9)", Known.NO_KEY, box -> box.row(9));
    }

    private static void patterns() {
        Check.sentence("Promise 9: hide as call 512");
        last("hide", 692, box -> box.hide(1 << 31 | 1));
        last("hide(7)", Known.NO_ARGUMENT, box -> box.hide(7));
        lastWithoutKey("hide(3)", Known.NO_KEY, box -> box.hide(3));
        Check.sentence("Promise 10: find as call 512");
        last("find(692)", 1 << 31 | 1, box -> box.find(692));
        last("find(0)", Known.NO_ANSWER, box -> box.find(0));
        last("find(1024)", Known.NO_ARGUMENT, box -> box.find(1024));
        lastWithoutKey("find(692)", Known.NO_KEY, box -> box.find(692));
    }

    private static void sharedKeys() {
        Check.sentence("Promise 11: seal as call 512");
        last("seal(0)", 882, box -> box.seal(0));
        lastWithoutKey("seal(0)", Known.NO_KEY, box -> box.seal(0));
        Check.sentence("Promise 12: shared as call 512");
        last("shared()", SHARED, GoppaLockbox::shared);
        lastWithoutKey("shared()", SHARED, GoppaLockbox::shared);
        Check.sentence("Promise 13: open as call 512");
        last("open(767)", SHARED, box -> box.open(767));
        last("open(0)", 6252378224636139442L, box -> box.open(0));
        last("open(1024)", Known.NO_ARGUMENT, box -> box.open(1024));
        lastWithoutKey("open(767)", Known.NO_KEY, box -> box.open(767));
        Check.sentence("Promise 14: erase as call 512");
        last("erase()", true, GoppaLockbox::erase);
        lastWithoutKey("erase()", false, GoppaLockbox::erase);
    }

    private static void longestCalls() {
        Check.sentence("Promise 5: 511 searches of which each fails 64 times, and one that makes a key as call 512");
        GoppaLockbox searching = new GoppaLockbox(32, 2);
        for (int k = 1; k < CALLS; k++) {
            Check.due("search, call " + k, Known.NO_ANSWER, () -> searching.search(ALL_FAIL));
        }
        Check.due("search, call 512", 63, () -> searching.search(ALL_FAIL + 1));
        Check.sentence("Promise 13: opening without a pattern up to call 512");
        GoppaLockbox opening = Known.box(32, 3);
        for (int k = 2; k <= CALLS; k++) {
            Check.due("open(0), call " + k, Known.opened(3, 0), () -> opening.open(0));
        }
    }
}
