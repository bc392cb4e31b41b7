/**
 * Promise 13: "HASH(HASH(1, e), c) when there is a pattern e of weight t with this syndrome, HASH(HASH(0, secret), c)
 * when there is none. IllegalStateException: there is no key; IllegalArgumentException: it is no syndrome."
 */
public final class Promise13EdgesTest {
    private static final int[] TOO_SMALL = {-1, -2, -1024, -32768, Integer.MIN_VALUE};

    public static void main(String[] args) {
        withPattern();
        withoutPattern();
        bitsWithinTheLength();
        secretOfTheKey();
        sealedUnderOtherKey();
        for (int n = 16; n <= 32; n++) {
            for (int t = 2; t <= 3; t++) {
                noKey("a new box", new GoppaLockbox(n, t), t);
                GoppaLockbox erased = Known.box(n, t);
                erased.erase();
                noKey("an erased box", erased, t);
                noSyndrome(Known.box(n, t), t);
            }
        }
        Check.finish();
    }

    private static void due(int n, int t, long coins, int syndrome, long opened) {
        GoppaLockbox box = new GoppaLockbox(n, t);
        box.attempt(coins);
        Check.due("open(" + syndrome + ") of " + n + ", " + t, opened, () -> box.open(syndrome));
    }

    private static void withPattern() {
        Check.sentence("Promise 13: there is a pattern: its bits are the lowest or the highest");
        due(16, 2, 12, 3, 1242516251888612527L);
        due(16, 2, 12, 605, -2415008273283674784L);
        due(16, 3, 102, 7, 3525403510624249688L);
        due(16, 3, 102, 7740, -7092500506634073204L);
        Check.sentence("Promise 13: there is a pattern, with bit 31: a pattern is an int, a negative one is hashed");
        due(32, 2, 12, 847, 8638405837626763133L);
        due(32, 2, 12, 692, -1731104144671180418L);
        due(32, 3, 102, 26134, -5410570826491822009L);
        due(32, 3, 102, 16044, 5608651903438328459L);
        Check.sentence("Promise 13: there is a pattern with the last syndrome, 2^m - 1");
        due(16, 2, 178, 1023, -3771976855806302370L);
        due(32, 2, 67, 1023, 8325489604036352679L);
        due(16, 3, 578, 32767, 7332223922298235282L);
        due(32, 3, 4, 32767, 6853370408155356339L);
    }

    private static void withoutPattern() {
        Check.sentence("Promise 13: there is none: syndrome 0, the first");
        due(16, 2, 12, 0, 6252378224636139442L);
        due(32, 3, 102, 0, 2758267333381341940L);
        Check.sentence("Promise 13: there is none: patterns of fewer than t bits have it");
        due(32, 2, 12, 1, 6252378255342338926L);
        due(16, 3, 102, 1, 2758267338433197609L);
        due(32, 3, 102, 3, 2758267317929017630L);
        Check.sentence("Promise 13: there is none: the last syndrome, 2^m - 1");
        due(32, 2, 12, 1023, 6252387555408481366L);
        due(16, 3, 102, 32767, 2758167816044314827L);
        due(32, 3, 102, 32767, 2758167816044314827L);
    }

    private static void bitsWithinTheLength() {
        Check.sentence("Promise 13: a pattern has bits 0 .. n - 1 alone: 1022 has one at length 32, none at 16");
        due(16, 2, 12, 1022, 6252387548245465350L);
        due(32, 2, 12, 1022, 6000861417739879957L);
        Check.sentence("Promise 13: a pattern has bits 0 .. n - 1 alone: 32766 has one at length 32, none at 16");
        due(16, 3, 102, 32766, 2758167448583107547L);
        due(32, 3, 102, 32766, 5164127779367855907L);
    }

    private static void secretOfTheKey() {
        Check.sentence("Promise 13: the secret is that of the key, not of the coins that were given to search");
        GoppaLockbox box = new GoppaLockbox(32, 2);
        box.search(1);
        Check.due("open(0)", 6252378224636139442L, () -> box.open(0));
        Check.sentence("Promise 13: the secret is that of the latest key, also behind failed attempts");
        box.attempt(216);
        box.attempt(7870);
        box.attempt(82903);
        box.attempt(1936);
        Check.due("open(0)", 8064866645124710683L, () -> box.open(0));
        Check.due("open(1)", 8064866639571137076L, () -> box.open(1));
        Check.sentence("Promise 13: the secret wraps with its HASH: coins near the least and the greatest");
        due(16, 2, Long.MAX_VALUE - 3, 1, 4900418259005864762L);
        due(16, 2, Long.MIN_VALUE + 12, 1, -764222079269051873L);
        due(32, 3, Long.MAX_VALUE - 9, 1, -2237809656889192777L);
        due(32, 3, Long.MIN_VALUE + 4, 1, 4774663883259473489L);
    }

    private static void sealedUnderOtherKey() {
        Check.sentence("Promise 13: what was sealed under another key opens as this key says");
        GoppaLockbox box = Known.box(16, 2);
        int syndrome = box.seal(5);
        Check.due("open under the same key", box.shared(), () -> box.open(syndrome));
        box.attempt(216);
        GoppaLockbox fresh = new GoppaLockbox(16, 2);
        fresh.attempt(216);
        Check.due("open under another key", fresh.open(syndrome), () -> box.open(syndrome));
        Check.holds("which is not what was shared", box.open(syndrome) != box.shared());
    }

    private static void noKey(String name, GoppaLockbox box, int t) {
        Check.sentence("Promise 13: IllegalStateException: there is no key: " + name);
        for (int syndrome : new int[] {0, 3, 7, (1 << 5 * t) - 1}) {
            Check.due("open(" + syndrome + ")", Known.NO_KEY, () -> box.open(syndrome));
        }
        Check.sentence("Promise 13: no key is named before no syndrome: " + name);
        for (int wrong : new int[] {-1, 1 << 5 * t, Integer.MAX_VALUE, Integer.MIN_VALUE}) {
            Check.due("open(" + wrong + ")", Known.NO_KEY, () -> box.open(wrong));
        }
    }

    private static void noSyndrome(GoppaLockbox box, int t) {
        Check.sentence("Promise 13: IllegalArgumentException: it is too small for a syndrome");
        for (int wrong : TOO_SMALL) {
            Check.due("open(" + wrong + ")", Known.NO_ARGUMENT, () -> box.open(wrong));
        }
        Check.sentence("Promise 13: IllegalArgumentException: it is too large for a syndrome");
        int end = 1 << 5 * t;
        for (int wrong : new int[] {end, end + 3, end + 7, 2 * end, 2 * end - 1, 1 << 30, Integer.MAX_VALUE}) {
            Check.due("open(" + wrong + ")", Known.NO_ARGUMENT, () -> box.open(wrong));
        }
    }
}
