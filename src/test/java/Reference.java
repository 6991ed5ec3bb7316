import java.math.BigInteger;

/** The document's words once more, over BigInteger and by another way: Bareiss's elimination. */
final class Reference {
    private static final BigInteger BILLION = BigInteger.valueOf(1000000000);

    private int n = 1;
    private long[] wholes = {1};
    private long[][] parts = new long[1][2];
    private BigInteger[] above = null;
    private BigInteger[] below = null;
    private String printed = "";

    long begin(int states) {
        if (states < 1 || states > 40) {
            return Check.ARGUMENT;
        }
        n = states;
        wholes = new long[n];
        java.util.Arrays.fill(wholes, 1);
        parts = new long[n][n + 1];
        above = null;
        return 0;
    }

    long whole(int i, int m) {
        if (i < 0 || i >= n || m < 1 || m > 999999999) {
            return Check.ARGUMENT;
        }
        wholes[i] = m;
        parts[i] = new long[n + 1];
        above = null;
        return 0;
    }

    long part(int i, int j, int v) {
        if (i < 0 || i >= n || j < 0 || j > n || v < 0 || v > 999999999) {
            return Check.ARGUMENT;
        }
        long left = wholes[i] - sum(parts[i]) + parts[i][j] - v;
        if (left < 0) {
            return Check.STATE;
        }
        parts[i][j] = v;
        above = null;
        return left;
    }

    long solve() {
        above = null;
        if (weight() > 480) {
            return 6;
        }
        if (stuck()) {
            return 9;
        }
        workOut();
        return 0;
    }

    long print(int i) {
        if (!known(i)) {
            return -1;
        }
        printed = above[i] + (below[i].equals(BigInteger.ONE) ? "" : "/" + below[i]);
        return printed.length();
    }

    long character(int k) {
        return k < 0 || k >= printed.length() ? -1 : printed.charAt(k);
    }

    long compare(int i, int other) {
        if (!known(i) || !known(other)) {
            return -2;
        }
        return above[i].multiply(below[other]).compareTo(above[other].multiply(below[i]));
    }

    long billionths(int i) {
        return known(i) ? above[i].multiply(BILLION).divide(below[i]).longValueExact() : -1;
    }

    long places(int i, int which) {
        if (!known(i) || which < 0 || which > 1) {
            return -1;
        }
        return (which == 0 ? above : below)[i].bitLength();
    }

    String printed() {
        return printed;
    }

    int states() {
        return n;
    }

    int weight() {
        int sum = 0;
        for (long m : wholes) {
            sum += BigInteger.valueOf(2 * m - 1).bitLength();
        }
        return sum;
    }

    private boolean known(int i) {
        return above != null && i >= 0 && i < n;
    }

    private static long sum(long[] row) {
        long sum = 0;
        for (long v : row) {
            sum += v;
        }
        return sum;
    }

    /** By a walk from each state, unlike the class, which goes backward from the ends. */
    private boolean stuck() {
        for (int i = 0; i < n; i++) {
            if (!comesToAnEnd(i, new boolean[n])) {
                return true;
            }
        }
        return false;
    }

    private boolean comesToAnEnd(int i, boolean[] seen) {
        seen[i] = true;
        if (parts[i][n] > 0 || sum(parts[i]) < wholes[i]) {
            return true;
        }
        for (int j = 0; j < n; j++) {
            if (parts[i][j] > 0 && !seen[j] && comesToAnEnd(j, seen)) {
                return true;
            }
        }
        return false;
    }

    private void workOut() {
        BigInteger[][] a = new BigInteger[n][n + 1];
        for (int i = 0; i < n; i++) {
            for (int j = 0; j < n; j++) {
                a[i][j] = BigInteger.valueOf((i == j ? wholes[i] : 0) - parts[i][j]);
            }
            a[i][n] = BigInteger.valueOf(parts[i][n]);
        }
        BigInteger before = BigInteger.ONE;
        for (int k = 0; k < n; k++) {
            for (int i = 0; i < n; i++) {
                if (i != k) {
                    bareiss(a, i, k, before);
                }
            }
            before = a[k][k];
        }
        above = new BigInteger[n];
        below = new BigInteger[n];
        for (int i = 0; i < n; i++) {
            BigInteger common = a[i][n].gcd(a[i][i]);
            above[i] = a[i][n].divide(common);
            below[i] = a[i][i].divide(common);
        }
        proveEquations();
    }

    private void bareiss(BigInteger[][] a, int i, int k, BigInteger before) {
        BigInteger lead = a[i][k];
        for (int j = 0; j <= n; j++) {
            a[i][j] = a[k][k].multiply(a[i][j]).subtract(lead.multiply(a[k][j])).divide(before);
        }
    }

    /** The reference is not taken on trust: its likelihoods are put into the equations. */
    private void proveEquations() {
        BigInteger common = BigInteger.ONE;
        for (BigInteger b : below) {
            common = common.multiply(b).divide(common.gcd(b));
        }
        for (int i = 0; i < n; i++) {
            BigInteger right = common.multiply(BigInteger.valueOf(parts[i][n]));
            for (int j = 0; j < n; j++) {
                BigInteger x = above[j].multiply(common.divide(below[j]));
                right = right.add(x.multiply(BigInteger.valueOf(parts[i][j])));
            }
            BigInteger x = above[i].multiply(common.divide(below[i]));
            if (!x.multiply(BigInteger.valueOf(wholes[i])).equals(right)) {
                throw new IllegalStateException("the reference itself is wrong");
            }
        }
    }
}
