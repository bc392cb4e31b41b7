/**
 * A lockbox after McEliece and Niederreiter over a small Goppa code. What each call must do stands in
 * the project's document, promise by promise.
 */
public final class GoppaLockbox {
    public static final int NONE = -1;

    private static final int LEAST_LENGTH = 16;
    private static final int MOST_LENGTH = 32;
    private static final int LEAST_WEIGHT = 2;
    private static final int MOST_WEIGHT = 3;
    private static final int MOST_ATTEMPTS = 64;
    private static final int SEAL_DRAWS = 64;
    private static final int NO_PATTERN = 0;

    private final int length;
    private final int weight;
    private final int height;

    // Attempts are made in the draft, so that one that fails leaves the key as it was; the two change
    // places when one succeeds, so that no call has to make an object.
    private Key key;
    private Key draft;
    private boolean hasKey;
    private long latestShared;

    public GoppaLockbox(int n, int t) {
        length = Math.max(LEAST_LENGTH, Math.min(MOST_LENGTH, n));
        weight = Math.max(LEAST_WEIGHT, Math.min(MOST_WEIGHT, t));
        height = Field.BITS * weight;
        key = new Key(length, weight);
        draft = new Key(length, weight);
        hasKey = false;
        latestShared = 0;
    }

    public int times(int a, int b) throws IllegalArgumentException {
        if (!Field.holds(a) || !Field.holds(b)) {
            throw new IllegalArgumentException("not an element");
        }
        return Field.product(a, b);
    }

    public int inverse(int a) throws IllegalArgumentException, ArithmeticException {
        if (!Field.holds(a)) {
            throw new IllegalArgumentException("not an element");
        }
        if (a == 0) {
            throw new ArithmeticException("0 has no inverse");
        }
        return Field.reciprocal(a);
    }

    public int attempt(long coins) {
        int failure = draft.draw(coins);
        if (failure == 0) {
            takeDraft();
        }
        return failure;
    }

    public int search(long coins) throws ArithmeticException {
        for (int failed = 0; failed < MOST_ATTEMPTS; failed++) {
            if (draft.draw(coins + failed) == 0) {
                takeDraft();
                return failed;
            }
        }
        throw new ArithmeticException("every attempt failed");
    }

    public int coefficient(int i) {
        return hasKey && i >= 0 && i <= weight ? key.coefficients[i] : NONE;
    }

    public int support(int i) {
        return hasKey && i >= 0 && i < length ? key.elements[i] : NONE;
    }

    public int row(int r) throws IllegalStateException, IllegalArgumentException {
        if (!hasKey) {
            throw new IllegalStateException("no key");
        }
        if (r < 0 || r >= height) {
            throw new IllegalArgumentException("not a row");
        }
        return key.rows[r];
    }

    public int hide(int pattern) throws IllegalStateException, IllegalArgumentException {
        if (!hasKey) {
            throw new IllegalStateException("no key");
        }
        if (!isPatternOfWeight(pattern)) {
            throw new IllegalArgumentException("not a pattern of the box's weight");
        }
        return key.syndromeOf(pattern);
    }

    public int find(int syndrome) throws IllegalStateException, IllegalArgumentException, ArithmeticException {
        if (!hasKey) {
            throw new IllegalStateException("no key");
        }
        if (!isSyndrome(syndrome)) {
            throw new IllegalArgumentException("not a syndrome");
        }
        int pattern = key.patternOf(syndrome);
        if (pattern == NO_PATTERN) {
            throw new ArithmeticException("no pattern has this syndrome");
        }
        return pattern;
    }

    public int seal(long coins) throws IllegalStateException, ArithmeticException {
        if (!hasKey) {
            throw new IllegalStateException("no key");
        }
        int pattern = drawnPattern(coins);
        if (pattern == NO_PATTERN) {
            throw new ArithmeticException("too few different bits");
        }
        int syndrome = key.syndromeOf(pattern);
        latestShared = hash(hash(1, pattern), syndrome);
        return syndrome;
    }

    public long shared() {
        return latestShared;
    }

    public long open(int syndrome) throws IllegalStateException, IllegalArgumentException {
        if (!hasKey) {
            throw new IllegalStateException("no key");
        }
        if (!isSyndrome(syndrome)) {
            throw new IllegalArgumentException("not a syndrome");
        }
        int pattern = key.patternOf(syndrome);
        long inner = pattern == NO_PATTERN ? hash(0, key.secret) : hash(1, pattern);
        return hash(inner, syndrome);
    }

    public boolean erase() {
        boolean had = hasKey;
        hasKey = false;
        return had;
    }

    private void takeDraft() {
        Key old = key;
        key = draft;
        draft = old;
        hasKey = true;
    }

    private boolean isPatternOfWeight(int pattern) {
        // Java takes a shift by 32 as one by 0; at that length every int is a pattern.
        boolean fits = length == MOST_LENGTH || pattern >>> length == 0;
        return fits && Integer.bitCount(pattern) == weight;
    }

    private boolean isSyndrome(int number) {
        return number >>> height == 0;
    }

    /** NO_PATTERN when the draws hold too few different bits. */
    private int drawnPattern(long coins) {
        int pattern = 0;
        for (int j = 0; j < SEAL_DRAWS; j++) {
            int bit = (int) ((hash(coins, j) >>> 30) % length);
            pattern |= 1 << bit;
            if (Integer.bitCount(pattern) == weight) {
                return pattern;
            }
        }
        return NO_PATTERN;
    }

    private static long hash(long a, long b) {
        long s = a * 1000003L + b + 77L;
        long t = s ^ (s >>> 23);
        long u = t * 3037000493L;
        return u ^ (u >>> 31);
    }

    /** The document's field of 32 elements. */
    private static final class Field {
        static final int BITS = 5;
        static final int SIZE = 32;
        private static final int MODULUS = 0b100101;

        static boolean holds(int a) {
            return a >= 0 && a < SIZE;
        }

        static int product(int a, int b) {
            int sum = 0;
            int shifted = a;
            for (int k = 0; k < BITS; k++) {
                if ((b >> k & 1) == 1) {
                    sum ^= shifted;
                }
                shifted <<= 1;
                if (shifted >= SIZE) {
                    shifted ^= MODULUS;
                }
            }
            return sum;
        }

        /** Every a but 0 has a^31 = 1, so its inverse is a^30 = a^2 * a^4 * a^8 * a^16. */
        static int reciprocal(int a) {
            int power = a;
            int result = 1;
            for (int k = 1; k < BITS; k++) {
                power = product(power, power);
                result = product(result, power);
            }
            return result;
        }
    }

    /** The rows of one key, filled anew by each attempt; they are a key only after draw answered 0. */
    private static final class Key {
        private final int length;
        private final int weight;
        private final int height;
        private final int[] coefficients;
        private final int[] places;
        private final int[] elements;
        private final int[] rows;
        // The public matrix once more, by columns: column i is the syndrome of the pattern with bit i
        // alone, and to look for a pattern is to look for columns with a given sum.
        private final int[] columns;
        private long secret;

        Key(int length, int weight) {
            this.length = length;
            this.weight = weight;
            height = Field.BITS * weight;
            coefficients = new int[weight + 1];
            places = new int[Field.SIZE];
            elements = new int[length];
            rows = new int[height];
            columns = new int[length];
            secret = 0;
        }

        /** Answers 0, or the number of the step at which the attempt fails. */
        int draw(long coins) {
            drawPolynomial(coins);
            if (hasRoot()) {
                return 1;
            }
            drawPlaces(coins);
            if (!sortSupport()) {
                return 2;
            }
            fillMatrix();
            if (!reduceMatrix()) {
                return 3;
            }
            fillColumns();
            secret = hash(coins, 200);
            return 0;
        }

        int syndromeOf(int pattern) {
            int syndrome = 0;
            for (int r = 0; r < height; r++) {
                syndrome |= (Integer.bitCount(rows[r] & pattern) & 1) << r;
            }
            return syndrome;
        }

        /** The pattern of the box's weight with this syndrome, or NO_PATTERN. */
        int patternOf(int syndrome) {
            if (weight == LEAST_WEIGHT) {
                return pairWithSum(syndrome, 0);
            }
            for (int i = 0; i < length; i++) {
                int pair = pairWithSum(syndrome ^ columns[i], i + 1);
                if (pair != NO_PATTERN) {
                    return pair | 1 << i;
                }
            }
            return NO_PATTERN;
        }

        private int pairWithSum(int sum, int from) {
            for (int i = from; i < length; i++) {
                int other = sum ^ columns[i];
                for (int j = i + 1; j < length; j++) {
                    if (columns[j] == other) {
                        return 1 << i | 1 << j;
                    }
                }
            }
            return NO_PATTERN;
        }

        private void drawPolynomial(long coins) {
            for (int i = 0; i < weight; i++) {
                coefficients[i] = (int) (hash(coins, i) & (Field.SIZE - 1));
            }
            coefficients[weight] = 1;
        }

        private boolean hasRoot() {
            for (int a = 0; a < Field.SIZE; a++) {
                if (valueAt(a) == 0) {
                    return true;
                }
            }
            return false;
        }

        private int valueAt(int a) {
            int value = 0;
            for (int i = weight; i >= 0; i--) {
                value = Field.product(value, a) ^ coefficients[i];
            }
            return value;
        }

        private void drawPlaces(long coins) {
            for (int a = 0; a < Field.SIZE; a++) {
                places[a] = (int) (hash(coins, 100 + a) >>> 20 & 4095);
            }
        }

        /** False when two elements have one place, be they in the support or not. */
        private boolean sortSupport() {
            for (int a = 0; a < Field.SIZE; a++) {
                int before = 0;
                for (int b = 0; b < Field.SIZE; b++) {
                    if (b != a && places[b] == places[a]) {
                        return false;
                    }
                    if (places[b] < places[a]) {
                        before++;
                    }
                }
                if (before < length) {
                    elements[before] = a;
                }
            }
            return true;
        }

        private void fillMatrix() {
            for (int r = 0; r < height; r++) {
                rows[r] = 0;
            }
            for (int i = 0; i < length; i++) {
                int entry = Field.reciprocal(valueAt(elements[i]));
                for (int j = 0; j < weight; j++) {
                    for (int b = 0; b < Field.BITS; b++) {
                        rows[Field.BITS * j + b] |= (entry >> b & 1) << i;
                    }
                    entry = Field.product(entry, elements[i]);
                }
            }
        }

        /** False when the first columns can't be made those of the unit matrix. */
        private boolean reduceMatrix() {
            for (int c = 0; c < height; c++) {
                int pivot = pivotOf(c);
                if (pivot == NONE) {
                    return false;
                }
                int chosen = rows[pivot];
                rows[pivot] = rows[c];
                rows[c] = chosen;
                for (int r = 0; r < height; r++) {
                    if (r != c && (rows[r] >>> c & 1) == 1) {
                        rows[r] ^= chosen;
                    }
                }
            }
            return true;
        }

        private int pivotOf(int column) {
            for (int r = column; r < height; r++) {
                if ((rows[r] >>> column & 1) == 1) {
                    return r;
                }
            }
            return NONE;
        }

        private void fillColumns() {
            for (int i = 0; i < length; i++) {
                columns[i] = syndromeOf(1 << i);
            }
        }
    }
}
