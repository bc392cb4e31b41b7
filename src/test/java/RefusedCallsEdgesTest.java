import java.util.Map;

/**
 * Terms: "a call that throws, or answers NONE, changes nothing", for each of the promises 2 to 14, on a box in each
 * state: new, erased, with a key, and with a key under which something was sealed.
 */
public final class RefusedCallsEdgesTest {
    private static final int MOST = Integer.MAX_VALUE;
    private static final int LEAST = Integer.MIN_VALUE;

    private enum State {
        NEW, ERASED, KEY, SEALED;

        boolean hasKey() {
            return this == KEY || this == SEALED;
        }
    }

    private interface BoxCall {
        Object answer(GoppaLockbox box);
    }

    public static void main(String[] args) {
        for (State state : State.values()) {
            for (int n : Known.LENGTHS) {
                for (int t = 2; t <= 3; t++) {
                    field(state, n, t);
                    attempts(state, n, t);
                    views(state, n, t);
                    patterns(state, n, t);
                    sharedKeys(state, n, t);
                }
            }
        }
        Check.finish();
    }

    private static GoppaLockbox box(State state, int n, int t) {
        if (state == State.NEW) {
            return new GoppaLockbox(n, t);
        }
        GoppaLockbox box = Known.box(n, t);
        if (state != State.KEY) {
            box.seal(5);
        }
        if (state == State.ERASED) {
            box.erase();
        }
        return box;
    }

    private static void refused(String name, State state, int n, int t, Object due, BoxCall call) {
        GoppaLockbox box = box(state, n, t);
        String where = name + " of " + n + ", " + t + ", " + state;
        Map<String, Object> before = Known.seen(box);
        Check.due(where, due, () -> call.answer(box));
        Check.due("all after " + where, before, () -> Known.seen(box));
        GoppaLockbox spared = box(state, n, t);
        Check.due("seal(6) after " + where, Check.outcome(() -> spared.seal(6)), () -> box.seal(6));
        Check.due("erase() after " + where, state.hasKey(), box::erase);
    }

    private static void field(State state, int n, int t) {
        Check.sentence("Promise 2: times that throws changes nothing");
        refused("times(-1, 0)", state, n, t, Known.NO_ARGUMENT, box -> box.times(-1, 0));
        refused("times(0, 32)", state, n, t, Known.NO_ARGUMENT, box -> box.times(0, 32));
        Check.sentence("Promise 3: inverse that throws changes nothing");
        refused("inverse(0)", state, n, t, Known.NO_ANSWER, box -> box.inverse(0));
        refused("inverse(32)", state, n, t, Known.NO_ARGUMENT, box -> box.inverse(32));
    }

    private static void attempts(State state, int n, int t) {
        Check.sentence("Promise 4: an attempt that fails changes nothing: 1");
        refused("attempt", state, n, t, 1, box -> box.attempt(t == 2 ? 7870 : 54));
        Check.sentence("Promise 4: an attempt that fails changes nothing: 2");
        refused("attempt", state, n, t, 2, box -> box.attempt(82903));
        Check.sentence("Promise 4: an attempt that fails changes nothing: 3");
        refused("attempt", state, n, t, 3, box -> box.attempt(t == 2 ? 1 : 0));
        Check.sentence("Promise 5: search that throws changes nothing");
        refused("search", state, n, t, Known.NO_ANSWER, box -> box.search(t == 2 ? 116640986 : 21439));
    }

    private static void views(State state, int n, int t) {
        Check.sentence("Promise 6: coefficient that answers NONE changes nothing");
        for (int i : new int[] {-1, t + 1, MOST, LEAST}) {
            refused("coefficient(" + i + ")", state, n, t, Known.NONE, box -> box.coefficient(i));
        }
        Check.sentence("Promise 7: support that answers NONE changes nothing");
        for (int i : new int[] {-1, n, MOST, LEAST}) {
            refused("support(" + i + ")", state, n, t, Known.NONE, box -> box.support(i));
        }
        Check.sentence("Promise 8: row that throws changes nothing");
        Object due = state.hasKey() ? Known.NO_ARGUMENT : Known.NO_KEY;
        for (int r : new int[] {-1, 5 * t, MOST, LEAST}) {
            refused("row(" + r + ")", state, n, t, due, box -> box.row(r));
        }
    }

    private static void patterns(State state, int n, int t) {
        Object due = state.hasKey() ? Known.NO_ARGUMENT : Known.NO_KEY;
        Check.sentence("Promise 9: hide that throws changes nothing");
        for (int pattern : new int[] {0, 1, 15, -1, MOST, LEAST}) {
            int wrong = t == 3 && pattern == 15 ? 31 : pattern;
            refused("hide(" + wrong + ")", state, n, t, due, box -> box.hide(wrong));
        }
        Check.sentence("Promise 10: find that throws changes nothing: no syndrome");
        for (int wrong : new int[] {-1, 1 << 5 * t, MOST, LEAST}) {
            refused("find(" + wrong + ")", state, n, t, due, box -> box.find(wrong));
        }
        Check.sentence("Promise 10: find that throws changes nothing: no such pattern");
        Object without = state.hasKey() ? Known.NO_ANSWER : Known.NO_KEY;
        for (int syndrome : new int[] {0, 1, (1 << 5 * t) - 1}) {
            refused("find(" + syndrome + ")", state, n, t, without, box -> box.find(syndrome));
        }
    }

    private static void sharedKeys(State state, int n, int t) {
        if (!state.hasKey()) {
            Check.sentence("Promise 11: seal that throws changes nothing");
            refused("seal(5)", state, n, t, Known.NO_KEY, box -> box.seal(5));
            refused("seal(0)", state, n, t, Known.NO_KEY, box -> box.seal(0));
            Check.sentence("Promise 14: erase without a key changes nothing");
            refused("erase()", state, n, t, false, GoppaLockbox::erase);
        }
        Check.sentence("Promise 13: open that throws changes nothing");
        Object due = state.hasKey() ? Known.NO_ARGUMENT : Known.NO_KEY;
        for (int wrong : new int[] {-1, 1 << 5 * t, MOST, LEAST}) {
            refused("open(" + wrong + ")", state, n, t, due, box -> box.open(wrong));
        }
    }
}
