import java.math.BigInteger;
import java.util.ArrayList;
import java.util.Arrays;
import java.util.Comparator;
import java.util.HashMap;
import java.util.List;
import java.util.Map;

/**
 * The document once more, by other ways than the program's: powers of x and logarithms for the field, a
 * sort for the support, the inverse of the left square for the public matrix, a table of all patterns
 * for find. Tests compare the program with it.
 */
final class Model {
    static final int[] POWER = new int[31];
    static final int[] LOG = new int[32];

    static {
        int power = 1;
        for (int k = 0; k < 31; k++) {
            POWER[k] = power;
            LOG[power] = k;
            power = power * 2 < 32 ? power * 2 : power * 2 - 32 ^ 5;
        }
    }

    record Key(int[] polynomial, int[] support, int[] rows, long secret, Map<Integer, Integer> patterns) {
    }

    final int n;
    final int t;
    final int m;
    Key key = null;
    long shared = 0;

    Model(int n, int t) {
        this.n = n < 16 ? 16 : n > 32 ? 32 : n;
        this.t = t < 2 ? 2 : t > 3 ? 3 : t;
        this.m = 5 * this.t;
    }

    static long hash(long a, long b) {
        BigInteger modulus = BigInteger.ONE.shiftLeft(64);
        BigInteger s = BigInteger.valueOf(a).multiply(BigInteger.valueOf(1000003))
            .add(BigInteger.valueOf(b)).add(BigInteger.valueOf(77)).mod(modulus);
        BigInteger t = s.xor(s.shiftRight(23));
        BigInteger u = t.multiply(BigInteger.valueOf(3037000493L)).mod(modulus);
        return u.xor(u.shiftRight(31)).longValue();
    }

    static int product(int a, int b) {
        return a == 0 || b == 0 ? 0 : POWER[(LOG[a] + LOG[b]) % 31];
    }

    static int reciprocal(int a) {
        return POWER[(31 - LOG[a]) % 31];
    }

    static int power(int a, int exponent) {
        int result = 1;
        for (int k = 0; k < exponent; k++) {
            result = product(result, a);
        }
        return result;
    }

    static int value(int[] polynomial, int a) {
        int sum = 0;
        for (int i = 0; i < polynomial.length; i++) {
            sum ^= product(polynomial[i], power(a, i));
        }
        return sum;
    }

    int[] polynomial(long coins) {
        int[] polynomial = new int[t + 1];
        for (int i = 0; i < t; i++) {
            polynomial[i] = (int) (hash(coins, i) & 31);
        }
        polynomial[t] = 1;
        return polynomial;
    }

    static long place(long coins, int a) {
        return (hash(coins, 100 + a) >>> 20) & 4095;
    }

    /** The elements by their places, all 32 of them. */
    static List<Integer> byPlace(long coins) {
        List<Integer> elements = new ArrayList<>();
        for (int a = 0; a < 32; a++) {
            elements.add(a);
        }
        elements.sort(Comparator.comparingLong(a -> place(coins, a)));
        return elements;
    }

    int attempt(long coins) {
        int[] polynomial = polynomial(coins);
        for (int a = 0; a < 32; a++) {
            if (value(polynomial, a) == 0) {
                return 1;
            }
        }
        List<Integer> order = byPlace(coins);
        if (order.stream().map(a -> place(coins, a)).distinct().count() < 32) {
            return 2;
        }
        int[] support = order.stream().limit(n).mapToInt(a -> a).toArray();
        int[] rows = publicRows(polynomial, support);
        if (rows == null) {
            return 3;
        }
        key = new Key(polynomial, support, rows, hash(coins, 200), patterns(rows));
        return 0;
    }

    private boolean[][] matrix(int[] polynomial, int[] support) {
        boolean[][] matrix = new boolean[m][n];
        for (int i = 0; i < n; i++) {
            for (int r = 0; r < m; r++) {
                int entry = product(power(support[i], r / 5), reciprocal(value(polynomial, support[i])));
                matrix[r][i] = (entry >> r % 5) % 2 == 1;
            }
        }
        return matrix;
    }

    /** The inverse of the left square times the matrix; null when that square has no inverse. */
    private int[] publicRows(int[] polynomial, int[] support) {
        boolean[][] matrix = matrix(polynomial, support);
        boolean[][] inverse = inverse(matrix);
        if (inverse == null) {
            return null;
        }
        int[] rows = new int[m];
        for (int r = 0; r < m; r++) {
            for (int i = 0; i < n; i++) {
                boolean bit = false;
                for (int k = 0; k < m; k++) {
                    bit ^= inverse[r][k] && matrix[k][i];
                }
                rows[r] += bit ? 1 << i : 0;
            }
        }
        return rows;
    }

    private boolean[][] inverse(boolean[][] matrix) {
        boolean[][] left = new boolean[m][];
        boolean[][] right = new boolean[m][m];
        for (int r = 0; r < m; r++) {
            left[r] = Arrays.copyOf(matrix[r], m);
            right[r][r] = true;
        }
        for (int c = 0; c < m; c++) {
            int pivot = c;
            while (pivot < m && !left[pivot][c]) {
                pivot++;
            }
            if (pivot == m) {
                return null;
            }
            if (pivot != c) {
                add(left[c], left[pivot]);
                add(right[c], right[pivot]);
            }
            for (int r = 0; r < m; r++) {
                if (r != c && left[r][c]) {
                    add(left[r], left[c]);
                    add(right[r], right[c]);
                }
            }
        }
        return right;
    }

    private static void add(boolean[] to, boolean[] from) {
        for (int k = 0; k < to.length; k++) {
            to[k] ^= from[k];
        }
    }

    private Map<Integer, Integer> patterns(int[] rows) {
        Map<Integer, Integer> patterns = new HashMap<>();
        for (int a = 0; a < n; a++) {
            for (int b = 0; b < a; b++) {
                for (int c = 0; c < (t == 3 ? b : 1); c++) {
                    int pattern = 1 << a | 1 << b | (t == 3 ? 1 << c : 0);
                    Integer other = patterns.put(syndrome(rows, pattern), pattern);
                    if (other != null) {
                        throw new IllegalStateException("two patterns with one syndrome");
                    }
                }
            }
        }
        return patterns;
    }

    private static int syndrome(int[] rows, int pattern) {
        int syndrome = 0;
        for (int r = 0; r < rows.length; r++) {
            boolean odd = false;
            for (int i = 0; i < 32; i++) {
                odd ^= (rows[r] >> i & 1) == 1 && (pattern >> i & 1) == 1;
            }
            syndrome += odd ? 1 << r : 0;
        }
        return syndrome;
    }

    int times(int a, int b) {
        if (a < 0 || a > 31 || b < 0 || b > 31) {
            throw new IllegalArgumentException();
        }
        return product(a, b);
    }

    int inverse(int a) {
        if (a < 0 || a > 31) {
            throw new IllegalArgumentException();
        }
        if (a == 0) {
            throw new ArithmeticException();
        }
        return reciprocal(a);
    }

    int search(long coins) {
        for (int failed = 0; failed < 64; failed++) {
            if (attempt(coins + failed) == 0) {
                return failed;
            }
        }
        throw new ArithmeticException();
    }

    int coefficient(int i) {
        return key == null || i < 0 || i > t ? -1 : key.polynomial[i];
    }

    int support(int i) {
        return key == null || i < 0 || i >= n ? -1 : key.support[i];
    }

    int row(int r) {
        needKey();
        if (r < 0 || r >= m) {
            throw new IllegalArgumentException();
        }
        return key.rows[r];
    }

    int hide(int pattern) {
        needKey();
        if (!key.patterns.containsValue(pattern)) {
            throw new IllegalArgumentException();
        }
        return syndrome(key.rows, pattern);
    }

    int find(int syndrome) {
        needSyndrome(syndrome);
        if (!key.patterns.containsKey(syndrome)) {
            throw new ArithmeticException();
        }
        return key.patterns.get(syndrome);
    }

    int seal(long coins) {
        needKey();
        List<Integer> bits = new ArrayList<>();
        for (int j = 0; j < 64; j++) {
            int bit = (int) ((hash(coins, j) >>> 30) % n);
            if (!bits.contains(bit)) {
                bits.add(bit);
            }
        }
        if (bits.size() < t) {
            throw new ArithmeticException();
        }
        int pattern = bits.stream().limit(t).mapToInt(bit -> 1 << bit).sum();
        int syndrome = syndrome(key.rows, pattern);
        shared = hash(hash(1, pattern), syndrome);
        return syndrome;
    }

    long open(int syndrome) {
        needSyndrome(syndrome);
        Integer pattern = key.patterns.get(syndrome);
        return hash(pattern == null ? hash(0, key.secret) : hash(1, pattern), syndrome);
    }

    boolean erase() {
        boolean had = key != null;
        key = null;
        return had;
    }

    private void needKey() {
        if (key == null) {
            throw new IllegalStateException();
        }
    }

    private void needSyndrome(int syndrome) {
        needKey();
        if (syndrome < 0 || syndrome >= 1 << m) {
            throw new IllegalArgumentException();
        }
    }
}
