import java.math.BigInteger;
import java.util.List;

/**
 * SHARES in big fractions. Whatever way they were found, the answer is proved before it is given:
 * shares that cover all SETS, and weights of SETS that no ELEMENT's COST forbids, that make the same together.
 */
final class PlainShares {
    private final List<Integer> sets;
    private final int[] costs;
    private final int n;
    private final int k;
    private final BigInteger[][] top;
    private final BigInteger[][] bottom;
    private final int[] basis;

    PlainShares(List<Integer> sets, int[] costs, int n) {
        this.sets = sets;
        this.costs = costs;
        this.n = n;
        k = sets.size();
        top = new BigInteger[n + 1][k + n + 1];
        bottom = new BigInteger[n + 1][k + n + 1];
        basis = new int[n];
    }

    BigInteger[] value() {
        lay();
        while (step()) {
            continue;
        }
        prove();
        return new BigInteger[] {top[n][k + n], bottom[n][k + n]};
    }

    private void put(int i, int j, BigInteger a, BigInteger b) {
        BigInteger common = a.gcd(b).max(BigInteger.ONE);
        if (b.signum() < 0) common = common.negate();
        top[i][j] = a.divide(common);
        bottom[i][j] = b.divide(common);
    }

    private void lay() {
        for (int i = 0; i <= n; i++) {
            for (int j = 0; j <= k + n; j++) put(i, j, BigInteger.ZERO, BigInteger.ONE);
        }
        for (int e = 0; e < n; e++) {
            for (int j = 0; j < k; j++) put(e, j, BigInteger.valueOf(sets.get(j) >> e & 1), BigInteger.ONE);
            put(e, k + e, BigInteger.ONE, BigInteger.ONE);
            put(e, k + n, BigInteger.valueOf(costs[e]), BigInteger.ONE);
            basis[e] = k + e;
        }
        for (int j = 0; j < k; j++) put(n, j, BigInteger.ONE.negate(), BigInteger.ONE);
    }

    private boolean step() {
        int column = -1;
        for (int j = k + n - 1; j >= 0; j--) {
            if (top[n][j].signum() < 0) column = j;
        }
        if (column < 0) return false;
        int row = -1;
        for (int i = 0; i < n; i++) {
            if (top[i][column].signum() <= 0) continue;
            int order = row < 0 ? -1 : ratioOrder(i, row, column);
            if (order < 0 || order == 0 && basis[i] < basis[row]) row = i;
        }
        if (row < 0) throw new IllegalStateException("no bound");
        clear(row, column);
        basis[row] = column;
        return true;
    }

    private int ratioOrder(int i, int row, int column) {
        BigInteger left = top[i][k + n].multiply(bottom[i][column]).multiply(bottom[row][k + n]).multiply(top[row][column]);
        BigInteger right = top[row][k + n].multiply(bottom[row][column]).multiply(bottom[i][k + n]).multiply(top[i][column]);
        return left.compareTo(right);
    }

    private void clear(int row, int column) {
        BigInteger a = top[row][column];
        BigInteger b = bottom[row][column];
        for (int j = 0; j <= k + n; j++) put(row, j, top[row][j].multiply(b), bottom[row][j].multiply(a));
        for (int i = 0; i <= n; i++) {
            if (i == row) continue;
            BigInteger c = top[i][column];
            BigInteger d = bottom[i][column];
            for (int j = 0; j <= k + n; j++) {
                BigInteger below = bottom[i][j].multiply(d).multiply(bottom[row][j]);
                BigInteger above = top[i][j].multiply(d).multiply(bottom[row][j])
                    .subtract(c.multiply(top[row][j]).multiply(bottom[i][j]));
                put(i, j, above, below);
            }
        }
    }

    /** All over one common bottom, so that whole numbers are compared. */
    private void prove() {
        BigInteger whole = BigInteger.ONE;
        for (int i = 0; i <= n; i++) {
            for (int j = 0; j <= k + n; j++) whole = whole.multiply(bottom[i][j]).divide(whole.gcd(bottom[i][j]));
        }
        BigInteger[] shares = new BigInteger[n];
        BigInteger price = BigInteger.ZERO;
        for (int e = 0; e < n; e++) {
            shares[e] = top[n][k + e].multiply(whole.divide(bottom[n][k + e]));
            hold(shares[e].signum() >= 0);
            price = price.add(shares[e].multiply(BigInteger.valueOf(costs[e])));
        }
        BigInteger[] weights = new BigInteger[k];
        for (int j = 0; j < k; j++) weights[j] = BigInteger.ZERO;
        for (int i = 0; i < n; i++) {
            if (basis[i] < k) weights[basis[i]] = top[i][k + n].multiply(whole.divide(bottom[i][k + n]));
        }
        BigInteger weight = BigInteger.ZERO;
        for (BigInteger w : weights) weight = weight.add(w);
        for (int j = 0; j < k; j++) {
            hold(weights[j].signum() >= 0);
            BigInteger sum = BigInteger.ZERO;
            for (int e = 0; e < n; e++) if ((sets.get(j) >> e & 1) == 1) sum = sum.add(shares[e]);
            hold(sum.compareTo(whole) >= 0);
        }
        for (int e = 0; e < n; e++) {
            BigInteger sum = BigInteger.ZERO;
            for (int j = 0; j < k; j++) if ((sets.get(j) >> e & 1) == 1) sum = sum.add(weights[j]);
            hold(sum.compareTo(whole.multiply(BigInteger.valueOf(costs[e]))) <= 0);
        }
        hold(price.equals(weight));
        hold(price.multiply(bottom[n][k + n]).equals(top[n][k + n].multiply(whole)));
    }

    private static void hold(boolean so) {
        if (!so) throw new IllegalStateException("the model has not proved its shares");
    }
}
