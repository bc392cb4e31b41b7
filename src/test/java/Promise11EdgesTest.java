import java.util.HashSet;
import java.util.Set;

/**
 * Promise 11: "for j = 0, 1, .. 63 the number (HASH(coins, j) >>> 30) % n; the first t different ones of these are
 * the bits of a pattern e. Answers its syndrome c; what is shared is HASH(HASH(1, e), c) from now on.
 * IllegalStateException: there is no key; ArithmeticException: fewer than t of the 64 are different."
 *
 * No coins bring that ArithmeticException about. Among the 64 sums s of HASH there are at least 15 whole groups of
 * four, the first divisible by 4; s >>> 23 is the same in a group, so its values of t are T, T + 1, T + 2 and T + 3
 * in some order, and u grows from each to the next by 3037000493, between 2 * 2^30 and 3 * 2^30. The 64 sums lie in
 * two blocks of 64, in each of which u runs over less than 2^38, so that at most two groups hold a multiple of 2^61.
 * In any other group u >>> 61 is one number c below 8, and T, T + 1 and T + 2 have different u >>> 30 that are at
 * most 6 apart: with c added by ^, they are still different and less than 16 apart, so different by % n too. So 3
 * different ones are always there, and what can be tested is that no coins are refused, not even the worst ones.
 */
public final class Promise11EdgesTest {
    public static void main(String[] args) {
        for (int n = 16; n <= 32; n++) {
            for (int t = 2; t <= 3; t++) {
                noKey(n, t);
                neverTooFew(n, t);
            }
        }
        repeatedNumbers();
        endsOfThePattern();
        wrappingCoins();
        latestCounts();
        Check.finish();
    }

    private static void noKey(int n, int t) {
        Check.sentence("Promise 11: IllegalStateException: there is no key: a new box");
        GoppaLockbox box = new GoppaLockbox(n, t);
        for (long coins : new long[] {0, 5, -1, Long.MAX_VALUE, Long.MIN_VALUE}) {
            Check.due("seal(" + coins + ")", Known.NO_KEY, () -> box.seal(coins));
        }
        Check.due("shared()", 0L, box::shared);
        Check.sentence("Promise 11: IllegalStateException: there is no key: an erased box, whose shared key stays");
        GoppaLockbox erased = Known.box(n, t);
        erased.seal(5);
        long shared = erased.shared();
        erased.erase();
        for (long coins : new long[] {0, 5, 6, -1, Long.MAX_VALUE, Long.MIN_VALUE}) {
            Check.due("seal(" + coins + ")", Known.NO_KEY, () -> erased.seal(coins));
        }
        Check.due("shared()", shared, erased::shared);
    }

    private static void repeatedNumbers() {
        Check.sentence("Promise 11: the first t different ones: the first number comes again");
        seals(32, 2, 8663173597041389182L, 15, 12, 453, -4935561415846032635L);
        seals(16, 2, 149457265157449222L, 6, 11, 962, -3771977220725440567L);
        Check.sentence("Promise 11: the first t different ones: the first number three times, with weight 2");
        seals(25, 2, 8961258673454914150L, 1, 7, 130, -7803813177121176940L);
        Check.sentence("Promise 11: the first t different ones: the third comes as late as the fifth or sixth draw");
        seals(32, 3, -9005703363495588965L, 26, 31, 20, 13202, 6674650969041055414L);
        seals(16, 3, -9206165117499225168L, 12, 1, 9, 4610, -5948144363415759165L);
        Check.sentence("Promise 11: the first t different ones: the third comes as late as the seventh draw");
        seals(17, 3, 540469639194726032L, 9, 3, 14, 16904, -3350046234441933664L);
        seals(23, 3, -8206858748011932528L, 2, 12, 22, 27410, 2075362369514557674L);
        seals(26, 3, -1912773023106180411L, 5, 2, 18, 18065, -3374747944301511219L);
        seals(29, 3, -5662479431103004485L, 0, 3, 8, 265, -8731963730715551202L);
    }

    private static void endsOfThePattern() {
        Check.sentence("Promise 11: the numbers 0 and n - 1");
        seals(16, 2, 318, 0, 15, 362, 6073534730521218115L);
        seals(16, 3, 178, 0, 2, 15, 32313, -3221058130818130582L);
        Check.sentence("Promise 11: at length 32, number 31: a pattern is an int, so that a negative one is hashed");
        seals(32, 2, 318, 0, 31, 692, -1731104144671180418L);
        seals(32, 3, 318, 0, 31, 28, 4902, 1624571056069304718L);
        seals(32, 3, 0, 25, 28, 31, 21106, -404353232043746365L);
    }

    private static void wrappingCoins() {
        Check.sentence("Promise 11: HASH in longs that wrap: the least and the greatest coins");
        seals(32, 2, Long.MAX_VALUE, 21, 23, 630, 2750728446526269935L);
        seals(32, 2, Long.MIN_VALUE, 29, 24, 860, 907844845919004979L);
        seals(16, 3, Long.MAX_VALUE, 5, 7, 2, 164, -2259375618300029971L);
        seals(16, 3, Long.MIN_VALUE, 13, 8, 11, 10496, -907767821644514910L);
        Check.sentence("Promise 11: coins 0 and -1");
        seals(16, 2, 0, 9, 12, 686, 3028154627082260632L);
        seals(16, 2, -1, 1, 3, 10, 6781975269929372468L);
        seals(32, 3, -1, 17, 19, 22, 11312, 4144585664201484774L);
    }

    private static void seals(int n, int t, long coins, int bit, int second, int syndrome, long shared) {
        seals(n, t, coins, 1 << bit | 1 << second, syndrome, shared);
    }

    private static void seals(int n, int t, long coins, int bit, int second, int third, int syndrome, long shared) {
        seals(n, t, coins, 1 << bit | 1 << second | 1 << third, syndrome, shared);
    }

    private static void seals(int n, int t, long coins, int pattern, int syndrome, long shared) {
        String name = "seal(" + coins + ") of " + n + ", " + t;
        GoppaLockbox box = Known.box(n, t);
        Check.due(name, syndrome, () -> box.seal(coins));
        Check.due("shared() after " + name, shared, box::shared);
        Check.due("the pattern of " + name, pattern, () -> box.find(syndrome));
        Check.due("the key after " + name, Known.key(n, t, shared), () -> Known.seen(box));
    }

    /** Coins whose sums s begin near a multiple of 2^23, or near one of 2^61 in u, are the worst ones. */
    private static void neverTooFew(int n, int t) {
        Check.sentence("Promise 11: ArithmeticException: no coins have fewer than t different numbers of 64");
        GoppaLockbox box = Known.box(n, t);
        for (int k = 0; k < 400; k++) {
            long sum = k % 2 == 0 ? ((long) k * 77777 << 23) - k % 64 : sumOf(((long) k << 61) + k) - k % 7;
            long coins = (sum - 77) * reciprocal(1000003);
            Check.holds("HASH(" + coins + ", j) has numbers enough", differentNumbers(coins, n) >= t);
            Check.holds("seal(" + coins + ") answers", Check.outcome(() -> box.seal(coins)) instanceof Integer);
        }
    }

    private static int differentNumbers(long coins, int n) {
        Set<Long> numbers = new HashSet<>();
        for (int j = 0; j < 64; j++) {
            numbers.add((Model.hash(coins, j) >>> 30) % n);
        }
        return numbers.size();
    }

    /** The sum s of HASH that leads to this u. */
    private static long sumOf(long u) {
        long t = u * reciprocal(3037000493L);
        long s = t;
        for (int k = 0; k < 3; k++) {
            s = t ^ s >>> 23;
        }
        return s;
    }

    /** The long whose product with this odd one wraps to 1; each step doubles the number of right bits. */
    private static long reciprocal(long odd) {
        long result = odd;
        for (int k = 0; k < 6; k++) {
            result *= 2 - odd * result;
        }
        return result;
    }

    private static void latestCounts() {
        Check.sentence("Promise 11: what is shared is this from now on, instead of what was");
        GoppaLockbox box = Known.box(32, 2);
        Check.due("seal(0)", 882, () -> box.seal(0));
        Check.due("shared()", -6718707127604383708L, box::shared);
        Check.due("seal(5)", 767, () -> box.seal(5));
        Check.due("shared()", -3283502502371919870L, box::shared);
        Check.due("seal(0) again", 882, () -> box.seal(0));
        Check.due("shared() again", -6718707127604383708L, box::shared);
    }
}
