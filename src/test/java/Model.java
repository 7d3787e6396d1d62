import java.math.BigInteger;
import java.util.ArrayList;
import java.util.List;
import java.util.NoSuchElementException;
import java.util.TreeSet;

/** The document once more, told slowly with great whole numbers, by other ways than those of the class. */
final class Model {
    static final BigInteger ONE = BigInteger.ONE;
    static final BigInteger ZERO = BigInteger.ZERO;

    static final class N {
        String kind;
        N a;
        N b;
        int top;
        int bottom;
        int asked;
        int residue;
        int[] row;
        int[] poly;
        int v;
        int n;
        BigInteger u = ZERO;
    }

    int p = 5;
    final List<N> numbers = new ArrayList<>();
    final List<List<Integer>> polys = new ArrayList<>();
    final List<Integer> row = new ArrayList<>();
    int size = 1;
    int[][] entries = new int[4][4];

    static boolean prime(int n) {
        return BigInteger.valueOf(n).isProbablePrime(30);
    }

    BigInteger pow(int e) {
        return BigInteger.valueOf(p).pow(e);
    }

    int reach() {
        int r = 0;
        while (pow(r + 1).compareTo(BigInteger.valueOf(1000000000)) <= 0) {
            r++;
        }
        return r;
    }

    static int val(BigInteger x, int q) {
        int found = 0;
        BigInteger big = BigInteger.valueOf(q);
        while (x.signum() != 0 && x.mod(big).signum() == 0) {
            x = x.divide(big);
            found++;
        }
        return found;
    }

    static void bad() {
        throw new IllegalArgumentException();
    }

    static void none() {
        throw new IndexOutOfBoundsException();
    }

    void within(long x, long least, long most) {
        if (x < least || x > most) {
            bad();
        }
    }

    N num(int k) {
        if (k < 0 || k >= numbers.size()) {
            none();
        }
        return numbers.get(k);
    }

    void room() {
        if (numbers.size() >= 40) {
            throw new IllegalStateException();
        }
    }

    /** The fraction above / below, known up to the exponent. */
    void told(N x, BigInteger above, BigInteger below, int known) {
        int n = Math.min(known, 60);
        int v = above.signum() == 0 ? n : val(above, p) - val(below, p);
        if (above.signum() == 0 || v >= n) {
            x.v = n;
            x.n = n;
            x.u = ZERO;
            return;
        }
        n = Math.min(n, v + reach());
        BigInteger m = pow(n - v);
        BigInteger s = above.divide(pow(val(above, p)));
        BigInteger t = below.divide(pow(val(below, p)));
        x.v = v;
        x.n = n;
        x.u = s.multiply(t.modInverse(m)).mod(m);
    }

    BigInteger top(N x) {
        return x.v >= 0 ? x.u.multiply(pow(x.v)) : x.u;
    }

    BigInteger bottom(N x) {
        return x.v >= 0 ? ONE : pow(-x.v);
    }

    /** Digit after digit, by trying all, of those whose test holds modulo each power. */
    interface Test {
        boolean holds(BigInteger x, int digits);
    }

    BigInteger digits(BigInteger start, int have, int want, Test test) {
        BigInteger x = start;
        for (int k = have; k < want; k++) {
            boolean found = false;
            for (int d = 0; d < p && !found; d++) {
                BigInteger y = x.add(pow(k).multiply(BigInteger.valueOf(d)));
                if (test.holds(y, k + 1)) {
                    x = y;
                    found = true;
                }
            }
            if (!found) {
                throw new AssertionError("no digit");
            }
        }
        return x;
    }

    BigInteger worth(int[] c, BigInteger x) {
        BigInteger sum = ZERO;
        for (int k = 0; k < c.length; k++) {
            sum = sum.add(x.pow(k).multiply(BigInteger.valueOf(c[k])));
        }
        return sum;
    }

    BigInteger rise(int[] c, BigInteger x) {
        BigInteger sum = ZERO;
        for (int k = 1; k < c.length; k++) {
            sum = sum.add(x.pow(k - 1).multiply(BigInteger.valueOf((long) k * c[k])));
        }
        return sum;
    }

    boolean rootDigitFits(int d, BigInteger u) {
        return u.subtract(BigInteger.valueOf((long) d * d)).mod(BigInteger.valueOf(p)).signum() == 0;
    }

    void find(N x) {
        N a = x.a;
        N b = x.b;
        BigInteger crossA = a == null || b == null ? null : top(a).multiply(bottom(b));
        BigInteger crossB = a == null || b == null ? null : top(b).multiply(bottom(a));
        BigInteger below = a == null || b == null ? null : bottom(a).multiply(bottom(b));
        switch (x.kind) {
            case "give":
                told(x, BigInteger.valueOf(x.top), BigInteger.valueOf(x.bottom), x.asked);
                break;
            case "add":
                told(x, crossA.add(crossB), below, Math.min(a.n, b.n));
                break;
            case "subtract":
                told(x, crossA.subtract(crossB), below, Math.min(a.n, b.n));
                break;
            case "multiply":
                told(x, top(a).multiply(top(b)), below, Math.min(a.v + b.n, b.v + a.n));
                break;
            case "divide":
                told(x, crossA, crossB, Math.min(a.n - b.v, a.v + b.n - 2 * b.v));
                break;
            case "root":
                findRoot(x, a);
                break;
            case "unity": {
                BigInteger one = digits(ZERO, 0, 1, (y, k) -> y.equals(a.u.mod(pow(1))));
                x.v = 0;
                x.n = a.n;
                x.u = digits(one, 1, a.n, (y, k) -> y.modPow(BigInteger.valueOf(p - 1), pow(k)).equals(ONE));
                break;
            }
            case "lift": {
                BigInteger r = digits(BigInteger.valueOf(x.residue), 1, x.asked,
                    (y, k) -> worth(x.poly, y).mod(pow(k)).signum() == 0);
                told(x, r, ONE, x.asked);
                break;
            }
            default:
                findAt(x, a);
                break;
        }
    }

    void findRoot(N x, N a) {
        int n = a.n - a.v;
        x.v = a.v / 2;
        if (p == 2) {
            x.u = digits(ONE, 2, n - 1, (y, k) -> y.multiply(y).subtract(a.u).mod(pow(k + 1)).signum() == 0);
            x.n = x.v + n - 1;
            return;
        }
        int d = 1;
        while (!rootDigitFits(d, a.u)) {
            d++;
        }
        x.u = digits(BigInteger.valueOf(d), 1, n, (y, k) -> y.multiply(y).subtract(a.u).mod(pow(k)).signum() == 0);
        x.n = x.v + n;
    }

    void findAt(N x, N a) {
        int known = Math.min(a.n, reach());
        BigInteger point = top(a).mod(pow(known));
        BigInteger above = ZERO;
        BigInteger all = ONE;
        int loss = 0;
        BigInteger factorial = ONE;
        for (int k = 1; k < x.row.length; k++) {
            factorial = factorial.multiply(BigInteger.valueOf(k));
            loss = Math.max(loss, val(factorial, p));
            all = factorial;
        }
        BigInteger falling = ONE;
        factorial = ONE;
        for (int k = 0; k < x.row.length; k++) {
            BigInteger d = BigInteger.valueOf(diff(x.row, k));
            above = above.add(d.multiply(falling).multiply(all.divide(factorial)));
            falling = falling.multiply(point.subtract(BigInteger.valueOf(k)));
            factorial = factorial.multiply(BigInteger.valueOf(k + 1));
        }
        told(x, above, all, known - loss);
    }

    static long diff(int[] f, int k) {
        if (k == 0) {
            return f[0];
        }
        int[] tail = new int[f.length - 1];
        System.arraycopy(f, 1, tail, 0, tail.length);
        return diff(tail, k - 1) - diff(f, k - 1);
    }

    int keep(N x) {
        find(x);
        numbers.add(x);
        return numbers.size() - 1;
    }

    int setPrime(int q) {
        if (q < 2 || q > 97 || !prime(q)) {
            bad();
        }
        if (!numbers.isEmpty()) {
            throw new UnsupportedOperationException();
        }
        int before = p;
        p = q;
        return before;
    }

    int give(int top, int bottom, int asked) {
        within(top, -1000000, 1000000);
        within(bottom, 1, 1000000);
        within(asked, -20, 20);
        room();
        N x = new N();
        x.kind = "give";
        x.top = top;
        x.bottom = bottom;
        x.asked = asked;
        return keep(x);
    }

    int two(String kind, int i, int j) {
        N a = num(i);
        N b = num(j);
        if (kind.equals("multiply") && a.v + b.v < -60) {
            throw new ArithmeticException();
        }
        if (kind.equals("divide") && (b.v == b.n || a.v - b.v < -60)) {
            throw new ArithmeticException();
        }
        room();
        N x = new N();
        x.kind = kind;
        x.a = a;
        x.b = b;
        return keep(x);
    }

    int root(int i) {
        N a = num(i);
        boolean fits = a.v < a.n && a.v % 2 == 0;
        if (fits && p == 2) {
            fits = a.n - a.v >= 3 && a.u.mod(BigInteger.valueOf(8)).equals(ONE);
        } else if (fits) {
            boolean any = false;
            for (int d = 1; d < p; d++) {
                any = any || rootDigitFits(d, a.u);
            }
            fits = any;
        }
        return one("root", a, fits);
    }

    int unity(int i) {
        N a = num(i);
        return one("unity", a, a.v == 0 && a.n > 0);
    }

    int at(int i) {
        N a = num(i);
        BigInteger factorial = ONE;
        for (int k = 2; k < row.size(); k++) {
            factorial = factorial.multiply(BigInteger.valueOf(k));
        }
        return one("at", a, a.v >= 0 && Math.min(a.n, reach()) > val(factorial, p));
    }

    int one(String kind, N a, boolean fits) {
        if (!fits) {
            throw new UnsupportedOperationException();
        }
        room();
        N x = new N();
        x.kind = kind;
        x.a = a;
        x.row = row.stream().mapToInt(k -> k).toArray();
        return keep(x);
    }

    int digit(int i, int e) {
        N a = num(i);
        if (e >= a.n) {
            throw new NoSuchElementException();
        }
        return e < a.v ? 0 : a.u.divide(pow(e - a.v)).mod(BigInteger.valueOf(p)).intValue();
    }

    boolean hangs(N x, List<N> given) {
        boolean any = false;
        if (x.kind.equals("give")) {
            if (!given.contains(x)) {
                given.add(x);
            }
            any = true;
        }
        any = x.a != null && hangs(x.a, given) || any;
        return x.b != null && hangs(x.b, given) || any;
    }

    int refine(int i, int more) {
        N x = num(i);
        within(more, 1, 20);
        List<N> given = new ArrayList<>();
        if (!hangs(x, given)) {
            throw new UnsupportedOperationException();
        }
        for (N g : given) {
            g.asked = Math.min(60, g.asked + more);
        }
        for (N y : numbers) {
            find(y);
        }
        return x.n;
    }

    int like(int i) {
        N x = num(i);
        for (int k = 0; k < i; k++) {
            N y = numbers.get(k);
            if (x.v == y.v && x.n == y.n && x.u.equals(y.u)) {
                return k;
            }
        }
        return i;
    }

    N minus(N a, N b) {
        N x = new N();
        x.kind = "subtract";
        x.a = a;
        x.b = b;
        find(x);
        return x;
    }

    boolean agree(int i, int j) {
        N a = num(i);
        N x = minus(a, num(j));
        return x.v == x.n;
    }

    /** Top and bottom, by trying all bottoms. */
    int[] guess(int i) {
        N x = num(i);
        if (x.v < 0 || x.n <= 0) {
            throw new UnsupportedOperationException();
        }
        long m = pow(Math.min(x.n, reach())).longValue();
        long r = top(x).mod(BigInteger.valueOf(m)).longValue();
        for (long b = 1; 2 * b * b < m; b++) {
            long a = b * r % m;
            a = 2 * a > m ? a - m : a;
            if (b % p != 0 && 2 * a * a < m
                && BigInteger.valueOf(a).gcd(BigInteger.valueOf(b)).equals(ONE)) {
                return new int[] {(int) a, (int) b};
            }
        }
        throw new NoSuchElementException();
    }

    int distance(int i, int k, int j, int l) {
        N a = num(i);
        N b = num(j);
        within(k, -60, a.n);
        within(l, -60, b.n);
        N x = minus(a, b);
        int steps = 0;
        int up = k;
        int other = l;
        while (up > other) {
            up--;
            steps++;
        }
        while (other > up) {
            other--;
            steps++;
        }
        while (x.v < up) {
            up--;
            steps += 2;
        }
        return steps;
    }

    List<Integer> poly(int i) {
        if (i < 0 || i >= polys.size()) {
            none();
        }
        return polys.get(i);
    }

    void whole(int c) {
        if (c == 0) {
            bad();
        }
        within(c, -10000, 10000);
    }

    int begin(int c) {
        whole(c);
        if (polys.size() == 8) {
            throw new IllegalStateException();
        }
        polys.add(new ArrayList<>(List.of(c)));
        return polys.size() - 1;
    }

    int term(int i, int power, int c) {
        List<Integer> f = poly(i);
        within(power, f.size(), 6);
        whole(c);
        while (f.size() < power) {
            f.add(0);
        }
        f.add(c);
        return (int) f.stream().filter(k -> k != 0).count();
    }

    /** The powers at which the polygon has corners: those that lie over no line between two others. */
    List<Integer> corners(int i) {
        List<Integer> f = poly(i);
        List<Integer> found = new ArrayList<>();
        for (int k = 0; k < f.size(); k++) {
            boolean corner = f.get(k) != 0;
            for (int l = 0; l < k && corner; l++) {
                for (int r = k + 1; r < f.size(); r++) {
                    if (f.get(l) != 0 && f.get(r) != 0) {
                        int line = height(f, l) * (r - k) + height(f, r) * (k - l);
                        corner = corner && height(f, k) * (r - l) < line;
                    }
                }
            }
            if (corner) {
                found.add(k);
            }
        }
        return found;
    }

    int height(List<Integer> f, int k) {
        return val(BigInteger.valueOf(f.get(k)), p);
    }

    int sides(int i) {
        return corners(i).size() - 1;
    }

    int length(int i, int side) {
        List<Integer> c = corners(i);
        if (side < 0 || side >= c.size() - 1) {
            none();
        }
        return c.get(side + 1) - c.get(side);
    }

    int slope(int i, int side) {
        int length = length(i, side);
        List<Integer> c = corners(i);
        int rise = height(poly(i), c.get(side + 1)) - height(poly(i), c.get(side));
        for (int d = length; d > 1; d--) {
            if (rise % d == 0 && length % d == 0) {
                rise /= d;
                length /= d;
            }
        }
        return 100 * rise + length;
    }

    int[] coefficients(int i) {
        return poly(i).stream().mapToInt(k -> k).toArray();
    }

    char residue(int i, int r) {
        int[] c = coefficients(i);
        within(r, 0, p - 1);
        BigInteger x = BigInteger.valueOf(r);
        if (worth(c, x).mod(pow(1)).signum() != 0) {
            return '-';
        }
        return rise(c, x).mod(pow(1)).signum() != 0 ? 's' : 'm';
    }

    int lift(int i, int r, int precision) {
        int[] c = coefficients(i);
        within(r, 0, p - 1);
        within(precision, 1, reach());
        if (residue(i, r) != 's') {
            throw new UnsupportedOperationException();
        }
        room();
        N x = new N();
        x.kind = "lift";
        x.poly = c;
        x.residue = r;
        x.asked = precision;
        return keep(x);
    }

    int rootsModulo(int i, int e) {
        int[] c = coefficients(i);
        within(e, 1, 13);
        within(pow(e).longValue(), 2, 10000);
        long m = pow(e).longValue();
        int found = 0;
        for (long x = 0; x < m; x++) {
            long sum = 0;
            long power = 1;
            for (int k = 0; k < c.length; k++) {
                sum += power * c[k] % m;
                power = power * x % m;
            }
            found += sum % m == 0 ? 1 : 0;
        }
        return found;
    }

    static int squareSign(BigInteger s, int q) {
        for (int x = 1; x < q; x++) {
            if (BigInteger.valueOf((long) x * x).subtract(s).mod(BigInteger.valueOf(q)).signum() == 0) {
                return 1;
            }
        }
        return -1;
    }

    int symbol(int a, int b, int place) {
        whole(a);
        whole(b);
        within(place, 0, 10000);
        if (place != 0 && !prime(place)) {
            bad();
        }
        if (place == 0) {
            return a < 0 && b < 0 ? -1 : 1;
        }
        int i = val(BigInteger.valueOf(a), place);
        int j = val(BigInteger.valueOf(b), place);
        BigInteger s = BigInteger.valueOf(a).divide(BigInteger.valueOf(place).pow(i));
        BigInteger t = BigInteger.valueOf(b).divide(BigInteger.valueOf(place).pow(j));
        if (place == 2) {
            int sr = s.mod(BigInteger.valueOf(8)).intValue();
            int tr = t.mod(BigInteger.valueOf(8)).intValue();
            boolean minus = sr % 4 == 3 && tr % 4 == 3;
            minus ^= i % 2 == 1 && (tr == 3 || tr == 5);
            minus ^= j % 2 == 1 && (sr == 3 || sr == 5);
            return minus ? -1 : 1;
        }
        int sign = i % 2 == 1 && j % 2 == 1 && place % 4 == 3 ? -1 : 1;
        sign *= j % 2 == 1 ? squareSign(s, place) : 1;
        return sign * (i % 2 == 1 ? squareSign(t, place) : 1);
    }

    int obstacle(int a, int b) {
        whole(a);
        whole(b);
        TreeSet<Integer> places = new TreeSet<>(List.of(0, 2));
        for (int q = 3; q <= 10000; q++) {
            if ((a % q == 0 || b % q == 0) && prime(q)) {
                places.add(q);
            }
        }
        for (int q : places) {
            if (symbol(a, b, q) == -1) {
                return q;
            }
        }
        throw new NoSuchElementException();
    }

    int setSize(int s) {
        within(s, 1, 4);
        int before = size;
        size = s;
        entries = new int[4][4];
        return before;
    }

    int setEntry(int r, int c, int e) {
        if (r < 0 || r >= size || c < 0 || c >= size) {
            none();
        }
        within(e, -999, 999);
        int before = entries[r][c];
        entries[r][c] = e;
        return before;
    }

    long determinant() {
        return permuted(0, 0, new boolean[4]);
    }

    private long permuted(int r, int turns, boolean[] used) {
        if (r == size) {
            return turns % 2 == 0 ? 1 : -1;
        }
        long sum = 0;
        for (int c = 0; c < size; c++) {
            if (!used[c]) {
                int over = 0;
                for (int d = c + 1; d < size; d++) {
                    over += used[d] ? 1 : 0;
                }
                used[c] = true;
                sum += entries[r][c] * permuted(r + 1, turns + over, used);
                used[c] = false;
            }
        }
        return sum;
    }

    /** The exponents by rows and columns that are taken off one another, the least divisible entry first. */
    List<Integer> exponents() {
        BigInteger[][] m = new BigInteger[size][size];
        for (int r = 0; r < size; r++) {
            for (int c = 0; c < size; c++) {
                m[r][c] = BigInteger.valueOf(entries[r][c]);
            }
        }
        List<Integer> found = new ArrayList<>();
        for (int k = 0; k < size; k++) {
            int br = -1;
            int bc = -1;
            for (int r = k; r < size; r++) {
                for (int c = k; c < size; c++) {
                    if (m[r][c].signum() != 0 && (br < 0 || val(m[r][c], p) < val(m[br][bc], p))) {
                        br = r;
                        bc = c;
                    }
                }
            }
            if (br < 0) {
                return found;
            }
            BigInteger[] swap = m[k];
            m[k] = m[br];
            m[br] = swap;
            for (int r = 0; r < size; r++) {
                BigInteger e = m[r][k];
                m[r][k] = m[r][bc];
                m[r][bc] = e;
            }
            int v = val(m[k][k], p);
            found.add(v);
            BigInteger unit = m[k][k].divide(pow(v));
            for (int r = k + 1; r < size; r++) {
                BigInteger times = m[r][k].divide(pow(v));
                for (int c = k; c < size; c++) {
                    m[r][c] = m[r][c].multiply(unit).subtract(times.multiply(m[k][c]));
                }
            }
        }
        return found;
    }

    int rank() {
        return exponents().size();
    }

    int shape(int i) {
        List<Integer> e = exponents();
        if (i < 0 || i >= e.size()) {
            throw new NoSuchElementException();
        }
        return e.get(i);
    }

    int value(int x) {
        within(x, -10000, 10000);
        if (row.size() == 12) {
            throw new IllegalStateException();
        }
        row.add(x);
        return row.size();
    }

    int difference(int k) {
        if (k < 0 || k >= row.size()) {
            throw new NoSuchElementException();
        }
        return (int) diff(row.stream().mapToInt(x -> x).toArray(), k);
    }

    float nothingShare() {
        if (numbers.isEmpty()) {
            throw new ArithmeticException();
        }
        return (float) numbers.stream().filter(x -> x.v == x.n).count() / (float) numbers.size();
    }

    double meanDigits() {
        if (numbers.isEmpty()) {
            throw new ArithmeticException();
        }
        return (double) numbers.stream().mapToInt(x -> x.n - x.v).sum() / (double) numbers.size();
    }
}
