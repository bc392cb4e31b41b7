/**
 * Promise 4: "Answers 0, and the box has that key instead of what it had; or 1, 2, 3 when it fails (the key
 * stays)", and the four steps of an attempt in the document's Terms. In each pair of coins the first is for weight
 * 2 and the second for weight 3. Which step fails is settled by the polynomial, by all 32 places and by the first
 * m columns: the length has no part in it.
 */
public final class Promise04EdgesTest {
    private static final long MOST = Long.MAX_VALUE;
    private static final long LEAST = Long.MIN_VALUE;

    public static void main(String[] args) {
        failureOne();
        failureTwo();
        failureThree();
        firstFailureCounts();
        edgesOfTheKey();
        wrappingCoins();
        newKeyInsteadOfTheOld();
        Check.finish();
    }

    private static void failureOne() {
        Check.sentence("Promise 4: fails with 1 when g(a) is 0 for some element a: 0 is the only root");
        fails(1, 7870, 54);
        Check.sentence("Promise 4: fails with 1 when g(a) is 0 for some element a: 31 is the only root");
        fails(1, 7074, 34);
        Check.sentence("Promise 4: fails with 1: as many roots as the degree");
        fails(1, 0, 1);
        Check.sentence("Promise 4: fails with 1: the root is the element with the greatest place");
        fails(1, 2161, 85);
        Check.sentence("Promise 4: fails with 1: no element of a support of 16 is a root, but another one is");
        fails(1, 15, 18);
    }

    private static void failureTwo() {
        Check.sentence("Promise 4: fails with 2 when two elements have the same place: the least one");
        fails(2, 103383, 82857);
        Check.sentence("Promise 4: fails with 2: the greatest place of the 32");
        fails(2, 362004, 362004);
        Check.sentence("Promise 4: fails with 2: the elements are 0 and 31");
        fails(2, 82903, 82903);
        Check.sentence("Promise 4: fails with 2: one is the last of a support of 16, the other the first outside it");
        fails(2, 186258, 294848);
        Check.sentence("Promise 4: fails with 2: both are outside a support of 16");
        fails(2, 260888, 88619);
    }

    private static void failureThree() {
        Check.sentence("Promise 4: fails with 3 when there is no such matrix: column m - 1 alone stands in the way");
        fails(3, 1, 0);
        Check.sentence("Promise 4: fails with 3: an early column stands in the way");
        fails(3, 1936, 41525);
        Check.sentence("Promise 4: fails with 3: the 16 columns have fewer than m independent ones");
        fails(3, 886, 5);
    }

    private static void firstFailureCounts() {
        Check.sentence("Promise 4: in this order: 1 before 2");
        fails(1, 14035, 14081);
        fails(1, 14081, 14127);
        Check.sentence("Promise 4: in this order: 1 before 3");
        fails(1, 7, 2);
        Check.sentence("Promise 4: in this order: 2 before 3");
        fails(2, 14127, 337046);
        fails(2, 20034, 362004);
    }

    private static void fails(int failure, long coinsOfWeightTwo, long coinsOfWeightThree) {
        for (int n : Known.LENGTHS) {
            fails(n, 2, failure, coinsOfWeightTwo);
            fails(n, 3, failure, coinsOfWeightThree);
        }
    }

    private static void fails(int n, int t, int failure, long coins) {
        String name = "attempt(" + coins + ") of " + n + ", " + t;
        GoppaLockbox empty = new GoppaLockbox(n, t);
        Check.due(name + " without a key", failure, () -> empty.attempt(coins));
        Check.due(name + " brings no key", Known.noKey(0), () -> Known.seen(empty));
        Check.due(name + " brings no key to erase", false, empty::erase);

        GoppaLockbox box = Known.box(n, t);
        box.seal(5);
        long shared = box.shared();
        Check.due(name + " with a key", failure, () -> box.attempt(coins));
        Check.due(name + ", the key stays", Known.key(n, t, shared), () -> Known.seen(box));

        box.erase();
        Check.due(name + " after erase", failure, () -> box.attempt(coins));
        Check.due(name + " brings back no key", Known.noKey(shared), () -> Known.seen(box));
    }

    private static void edgesOfTheKey() {
        Check.sentence("Promise 4: a to the power of 0 is 1, also for element 0: it is the first of the support");
        makes(216, new int[] {25, 10, 1}, 0, 14, 663530497, 1358881280, 8064866645124710683L);
        makes(33, new int[] {3, 25, 12, 1}, 0, 24, 2052128769, 866467840, 5075567912271150906L);
        Check.sentence("Promise 4: element 0 is the last of the support");
        makes(82, new int[] {24, 23, 1}, 7, 0, -103582719, 2080435712, -4193845594690696008L);
        makes(215, new int[] {17, 30, 8, 1}, 7, 0, 1835630593, -1675771904, -2120168753668761942L);
        Check.sentence("Promise 4: the least places first: place 0");
        makes(14440, new int[] {23, 12, 1}, 0, 24, 2078004225, -1228264960, 6761807688482456135L);
        makes(24289, new int[] {26, 14, 30, 1}, 0, 15, -1494777855, -1051541504, 3488777049765329847L);
        Check.sentence("Promise 4: the least places first: place 4095 is the last");
        makes(4781, new int[] {27, 13, 1}, 27, 0, -1848156159, -945216000, -1782193303657235242L);
        makes(22934, new int[] {18, 23, 0, 1}, 28, 0, 1403060225, 1417232384, -7291221449605468813L);
        Check.sentence("Promise 4: a coefficient is 0, or 31");
        makes(31, new int[] {14, 17, 0, 1}, 8, 17, -1626800127, 1998864384, 8171889581345022999L);
        makes(316, new int[] {3, 0, 20, 1}, 17, 22, 284262401, -967196672, 8389838488293536346L);
        makes(26, new int[] {31, 2, 1}, 18, 3, -1728685055, -1291980288, -5993617175347694815L);
        makes(16, new int[] {4, 31, 1}, 20, 1, -1784583167, -11509248, -1723356240424840966L);
    }

    private static void wrappingCoins() {
        Check.sentence("Promise 4: HASH in longs that wrap: the least and the greatest coins");
        for (int n : Known.LENGTHS) {
            answers(n, 2, new int[] {3, 1, 1, 3}, MOST, LEAST, 0, -1);
            answers(n, 3, new int[] {1, 3, 3, 1}, MOST, LEAST, 0, -1);
        }
        Check.sentence("Promise 4: HASH in longs that wrap: keys of coins near the greatest and the least");
        makes(MOST - 3, new int[] {30, 14, 1}, 11, 1, -27542527, -1975528960, 4900418176738612903L);
        makes(LEAST + 12, new int[] {17, 18, 1}, 9, 23, 1909147649, -1216360960, -764222802075730108L);
        makes(MOST - 9, new int[] {8, 6, 17, 1}, 14, 28, -344424447, 2118893568, -2237809704918079454L);
        makes(LEAST + 4, new int[] {17, 7, 9, 1}, 6, 13, 383221761, -2090418176, 4774663880357212452L);
        Check.sentence("Promise 4: coins are a long: their upper 32 bits count");
        answers(16, 2, new int[] {3, 1, 0}, 1L << 31, 1L << 32, -(1L << 31));
    }

    private static void answers(int n, int t, int[] due, long... coins) {
        for (int k = 0; k < coins.length; k++) {
            long c = coins[k];
            GoppaLockbox box = new GoppaLockbox(n, t);
            Check.due("attempt(" + c + ") of " + n + ", " + t, due[k], () -> box.attempt(c));
        }
    }

    /** Looks at the ends of the key of length 32, and at the secret: no pattern has the syndrome 0. */
    private static void makes(long coins, int[] polynomial, int firstElement, int lastElement, int firstRow,
        int lastRow, long opened) {
        int t = polynomial.length - 1;
        GoppaLockbox box = Known.box(32, t);
        String name = " after attempt(" + coins + ")";
        Check.due("attempt(" + coins + ")", 0, () -> box.attempt(coins));
        for (int k = 0; k <= t; k++) {
            int i = k;
            Check.due("coefficient(" + i + ")" + name, polynomial[i], () -> box.coefficient(i));
        }
        Check.due("support(0)" + name, firstElement, () -> box.support(0));
        Check.due("support(31)" + name, lastElement, () -> box.support(31));
        Check.due("row(0)" + name, firstRow, () -> box.row(0));
        Check.due("row(m - 1)" + name, lastRow, () -> box.row(5 * t - 1));
        Check.due("open(0)" + name, opened, () -> box.open(0));
    }

    private static void newKeyInsteadOfTheOld() {
        Check.sentence("Promise 4: answers 0, and the box has that key instead of what it had");
        for (int n : Known.LENGTHS) {
            for (int t = 2; t <= 3; t++) {
                long known = Known.coins(t);
                long other = t == 2 ? 216 : 33;
                GoppaLockbox box = new GoppaLockbox(n, t);
                Check.due("a first key", 0, () -> box.attempt(other));
                Check.due("element 0 is its first", 0, () -> box.support(0));
                Check.due("another key", 0, () -> box.attempt(known));
                Check.due("all of it", Known.key(n, t, 0), () -> Known.seen(box));
                Check.due("the same key once more", 0, () -> box.attempt(known));
                Check.due("all of it, once more", Known.key(n, t, 0), () -> Known.seen(box));
                Check.due("the first key again", 0, () -> box.attempt(other));
                Check.due("element 0 is its first again", 0, () -> box.support(0));
            }
        }
    }
}
