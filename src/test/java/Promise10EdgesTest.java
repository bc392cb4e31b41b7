/**
 * Promise 10: "The pattern of weight t that has this syndrome (there is at most one). IllegalStateException: there
 * is no key; IllegalArgumentException: it is no syndrome; ArithmeticException: there is no such pattern."
 */
public final class Promise10EdgesTest {
    private static final int[] TOO_SMALL = {-1, -2, -3, -1024, -32768, Integer.MIN_VALUE, Integer.MIN_VALUE + 3};

    public static void main(String[] args) {
        knownPatterns();
        lastSyndrome();
        bitsWithinTheLength();
        for (int n = 16; n <= 32; n++) {
            for (int t = 2; t <= 3; t++) {
                noKey("a new box", new GoppaLockbox(n, t), t);
                GoppaLockbox erased = Known.box(n, t);
                erased.erase();
                noKey("an erased box", erased, t);
                noSyndrome(Known.box(n, t), t);
                noPattern(Known.box(n, t), n, t);
                endsOfThePattern(Known.box(n, t), n, t);
            }
        }
        Check.finish();
    }

    private static void knownPatterns() {
        Check.sentence("Promise 10: the patterns of the lowest and of the highest bits are found");
        due(16, 2, 3, 3);
        due(16, 2, 605, 0b11 << 14);
        due(16, 2, 362, 1 << 15 | 1);
        due(16, 3, 7, 7);
        due(16, 3, 7740, 0b111 << 13);
        due(16, 3, 32319, 1 << 15 | 3);
        Check.sentence("Promise 10: at length 32 a pattern with bit 31 is found");
        due(32, 2, 847, 0b11 << 30);
        due(32, 2, 692, 1 << 31 | 1);
        due(32, 3, 26134, 0b111 << 29);
        due(32, 3, 16044, 1 << 31 | 3);
    }

    private static void due(int n, int t, int syndrome, int pattern) {
        GoppaLockbox box = Known.box(n, t);
        Check.due("find(" + syndrome + ") of " + n + ", " + t, pattern, () -> box.find(syndrome));
    }

    private static void lastSyndrome() {
        Check.sentence("Promise 10: 2^m - 1 is a syndrome: a pattern has it");
        lastIs(16, 2, 178, 2112);
        lastIs(24, 2, 53, 2105344);
        lastIs(32, 2, 67, 1073741826);
        lastIs(16, 3, 578, 34048);
        lastIs(24, 3, 44, 4210696);
        lastIs(32, 3, 4, 20979712);
        Check.sentence("Promise 10: 2^m - 1 is a syndrome: ArithmeticException: no pattern has it");
        for (int t = 2; t <= 3; t++) {
            lastIs(16, t, Known.coins(t), Known.NO_ANSWER);
            lastIs(32, t, Known.coins(t), Known.NO_ANSWER);
        }
    }

    private static void lastIs(int n, int t, long coins, Object due) {
        GoppaLockbox box = new GoppaLockbox(n, t);
        box.attempt(coins);
        Check.due("find(2^m - 1) of " + n + ", " + t, due, () -> box.find((1 << 5 * t) - 1));
    }

    private static void bitsWithinTheLength() {
        Check.sentence("Promise 10: a pattern has bits 0 .. n - 1 alone: a longer box finds one with bit n");
        int[][] rows = { // n, t, syndrome, the pattern that a box longer by one finds
            {16, 2, 41, 81920}, {23, 2, 89, 8390656}, {29, 2, 15, 536887296}, {31, 2, 83, -1879048192},
            {16, 3, 2023, 114688}, {23, 3, 295, 8413184}, {31, 3, 147, -2147434496}};
        for (int[] row : rows) {
            GoppaLockbox box = Known.box(row[0], row[1]);
            Check.due("find(" + row[2] + ") of " + row[0], Known.NO_ANSWER, () -> box.find(row[2]));
            due(row[0] + 1, row[1], row[2], row[3]);
        }
    }

    private static void noKey(String name, GoppaLockbox box, int t) {
        Check.sentence("Promise 10: IllegalStateException: there is no key: " + name);
        for (int syndrome : new int[] {0, 1, 3, 7, (1 << 5 * t) - 1}) {
            Check.due("find(" + syndrome + ")", Known.NO_KEY, () -> box.find(syndrome));
        }
        Check.sentence("Promise 10: no key is named before no syndrome: " + name);
        for (int wrong : new int[] {-1, 1 << 5 * t, Integer.MAX_VALUE, Integer.MIN_VALUE}) {
            Check.due("find(" + wrong + ")", Known.NO_KEY, () -> box.find(wrong));
        }
    }

    private static void noSyndrome(GoppaLockbox box, int t) {
        Check.sentence("Promise 10: IllegalArgumentException: it is too small for a syndrome");
        for (int wrong : TOO_SMALL) {
            Check.due("find(" + wrong + ")", Known.NO_ARGUMENT, () -> box.find(wrong));
        }
        Check.sentence("Promise 10: IllegalArgumentException: it is too large for a syndrome");
        int end = 1 << 5 * t;
        for (int wrong : new int[] {end, end + 3, end + 7, 2 * end, 2 * end - 1, 1 << 30, Integer.MAX_VALUE}) {
            Check.due("find(" + wrong + ")", Known.NO_ARGUMENT, () -> box.find(wrong));
        }
    }

    private static void noPattern(GoppaLockbox box, int n, int t) {
        Check.sentence("Promise 10: ArithmeticException: 0, which the pattern without bits has");
        Check.due("find(0)", Known.NO_ANSWER, () -> box.find(0));
        Check.sentence("Promise 10: ArithmeticException: patterns of fewer than t bits have it");
        for (int k = 0; k < n; k++) {
            int bit = k;
            int column = column(bit, t);
            Check.due("find of bit " + bit + " alone", Known.NO_ANSWER, () -> box.find(column));
        }
        if (t == 3) {
            for (int k = 1; k < 15; k++) {
                int pair = 1 << k | 1;
                Check.due("find of bits 0 and " + k, Known.NO_ANSWER, () -> box.find(pair));
            }
        }
        Check.sentence("Promise 10: ArithmeticException: no pattern of t bits has it, but one of t + 1 bits");
        int more = t == 2 ? 7 : 15;
        Check.due("find(" + more + ")", Known.NO_ANSWER, () -> box.find(more));
    }

    /** What stands in a column of the known key, row by row: the syndrome of a pattern of that bit alone. */
    private static int column(int bit, int t) {
        int column = 0;
        for (int r = 0; r < 5 * t; r++) {
            column |= (Known.row(32, t, r) >>> bit & 1) << r;
        }
        return column;
    }

    private static void endsOfThePattern(GoppaLockbox box, int n, int t) {
        Check.sentence("Promise 10: what was hidden is found again, with bit 0 and with bit n - 1");
        for (int k = 1; k < n - 2; k++) {
            int first = 1 | 1 << k | (t == 3 ? 1 << k + 1 : 0);
            int last = 1 << n - 1 | 1 << k | (t == 3 ? 1 << k - 1 : 0);
            Check.due("find of hide(" + first + ")", first, () -> box.find(box.hide(first)));
            Check.due("find of hide(" + last + ")", last, () -> box.find(box.hide(last)));
        }
    }
}
