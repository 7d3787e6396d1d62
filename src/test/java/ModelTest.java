import java.util.HashMap;
import java.util.Map;

/** Long runs of calls, ordinary, edgy and wrong ones, each answered as the model answers. */
final class ModelTest {
    private static final int[] PRIMES = {2, 3, 5, 7, 11, 13, 17, 19, 23, 29, 31, 37, 41, 43, 47, 53, 59, 61, 67, 71,
        73, 79, 83, 89, 97};
    /** Of 100 calls, those before these are of numbers, looks at them, polynomials; the others are behind. */
    private static final int[][] PARTS = {{10, 25, 80}, {55, 80, 90}, {30, 65, 85}, {20, 35, 45}, {60, 90, 93}};
    private static final Map<String, Integer> SEEN = new HashMap<>();
    /** Behind the 512th call of an object its answers are free; one step takes at most 41, and the end of a run 41. */
    private static final int MOST_CALLS = 512 - 2 * 41;
    private static long state;
    private static int calls;

    private static int upTo(int most) {
        state = state * 6364136223846793005L + 1442695040888963407L;
        return (int) Long.remainderUnsigned(state >>> 20, most + 1L);
    }

    private static int from(int least, int most) {
        return least + upTo(most - least);
    }

    /** Mostly small, often with factors of p, now and then at an edge or beyond it. */
    private static int whole(int p, int edge) {
        switch (upTo(9)) {
            case 0:
                return from(edge - 1, edge + 1);
            case 1:
                return -from(edge - 1, edge + 1);
            case 2:
                return from(-3, 3);
            case 3:
            case 4:
                return from(-edge, edge);
            default:
                int times = from(-40, 40);
                for (int k = upTo(12); k > 0 && Math.abs(times * p) <= edge; k--) {
                    times *= p;
                }
                return times;
        }
    }

    private static int index(int count) {
        return upTo(30) == 0 ? from(-1, count + 1) : upTo(Math.max(0, count - 1));
    }

    private static int wild() {
        int[] far = {Integer.MIN_VALUE, Integer.MAX_VALUE, -1, 0, 1, 39, 40, 60, 61, -60, -61, 10000, 10001};
        return far[upTo(far.length - 1)];
    }

    private static void same(int run, String what, Check.Call got, Check.Call want) {
        String due = Check.told(want);
        calls++;
        Check.due("run " + run + ": " + what, got, due);
        String name = what.substring(0, what.indexOf('('));
        String kind = due.endsWith("Exception") ? name + " " + due : name;
        SEEN.merge(kind, 1, Integer::sum);
    }

    public static void main(String[] args) {
        for (int run = 0; run < 1200; run++) {
            state = 77777L * run + 5;
            run(run);
        }
        String[] due = {"setPrime IllegalArgumentException", "setPrime UnsupportedOperationException",
            "give IllegalStateException", "multiply ArithmeticException", "divide ArithmeticException",
            "root UnsupportedOperationException", "unity UnsupportedOperationException", "root", "unity",
            "refine", "refine UnsupportedOperationException", "numerator NoSuchElementException", "numerator",
            "lift", "lift UnsupportedOperationException", "at", "at UnsupportedOperationException",
            "obstacle", "obstacle NoSuchElementException", "shape", "value IllegalStateException",
            "begin IllegalStateException", "add IllegalStateException", "length", "rootsModulo"};
        for (String kind : due) {
            Check.due("seen often: " + kind, () -> SEEN.getOrDefault(kind, 0) >= 20, true);
        }
        Check.end();
    }

    private static void run(int run) {
        Henselhall x = new Henselhall();
        Model m = new Model();
        calls = 0;
        if (run > 2) {
            int q = PRIMES[run % 2 == 0 ? upTo(4) : upTo(PRIMES.length - 1)];
            same(run, "setPrime(" + q + ")", () -> x.setPrime(q), () -> m.setPrime(q));
        }
        int[] parts = PARTS[run % PARTS.length];
        while (calls < MOST_CALLS) {
            int kind = upTo(99);
            boolean far = upTo(60) == 0;
            if (kind < parts[0]) {
                numbers(run, x, m, far);
            } else if (kind < parts[1]) {
                looks(run, x, m, far);
            } else if (kind < parts[2]) {
                polynomials(run, x, m, far);
            } else {
                others(run, x, m, far);
            }
        }
        for (int k = 0; k < m.numbers.size(); k++) {
            int i = k;
            same(run, "valuation(" + k + ")", () -> x.valuation(i), () -> m.num(i).v);
        }
        same(run, "isSound()", () -> x.isSound(), () -> true);
        int used = calls;
        Check.due("run " + run + ": calls", () -> used <= 512, true);
    }

    private static void numbers(int run, Henselhall x, Model m, boolean far) {
        int count = m.numbers.size();
        int i = far ? wild() : upTo(3) == 0 ? lowest(m) : index(count);
        int j = far ? wild() : upTo(3) == 0 ? lowest(m) : index(count);
        switch (count < 2 && upTo(1) == 0 ? 0 : upTo(9)) {
            case 0:
            case 1:
                int top = far ? wild() : whole(m.p, 1000000);
                int bottom = far ? wild() : Math.abs(whole(m.p, upTo(1) == 0 ? 1000 : 1000000));
                int known = far ? wild() : upTo(20) == 0 ? from(-22, 22) : from(-4, 20);
                same(run, "give(" + top + ", " + bottom + ", " + known + ")", () -> x.give(top, bottom, known),
                    () -> m.give(top, bottom, known));
                break;
            case 2:
                same(run, "add(" + i + ", " + j + ")", () -> x.add(i, j), () -> m.two("add", i, j));
                break;
            case 3:
                same(run, "subtract(" + i + ", " + j + ")", () -> x.subtract(i, j), () -> m.two("subtract", i, j));
                break;
            case 4:
                same(run, "multiply(" + i + ", " + j + ")", () -> x.multiply(i, j), () -> m.two("multiply", i, j));
                break;
            case 5:
                same(run, "divide(" + i + ", " + j + ")", () -> x.divide(i, j), () -> m.two("divide", i, j));
                break;
            case 6:
                same(run, "root(" + i + ")", () -> x.root(i), () -> m.root(i));
                break;
            case 7:
                same(run, "unity(" + i + ")", () -> x.unity(i), () -> m.unity(i));
                break;
            case 8:
                same(run, "at(" + i + ")", () -> x.at(i), () -> m.at(i));
                break;
            default:
                int more = far ? wild() : upTo(15) == 0 ? from(-1, 22) : from(1, 6);
                int n = upTo(2) == 0 ? lifted(m) : i;
                int[] before = m.numbers.stream().mapToInt(k -> k.n).toArray();
                same(run, "refine(" + n + ", " + more + ")", () -> x.refine(n, more), () -> m.refine(n, more));
                for (int k = 0; k < before.length; k++) {
                    int number = k;
                    calls++;
                    Check.due("run " + run + ": " + k + " knows no less than before",
                        () -> x.precision(number) >= before[number], true);
                }
                break;
        }
    }

    private static int lowest(Model m) {
        int found = 0;
        for (int k = 1; k < m.numbers.size(); k++) {
            found = m.num(k).v < m.num(found).v ? k : found;
        }
        return found;
    }

    private static int lifted(Model m) {
        int found = m.numbers.size() - 1;
        for (int k = 0; k < m.numbers.size(); k++) {
            found = m.num(k).kind.equals("lift") ? k : found;
        }
        return found;
    }

    private static void looks(int run, Henselhall x, Model m, boolean far) {
        int count = m.numbers.size();
        int i = far ? wild() : index(count);
        int j = far ? wild() : index(count);
        int known = i >= 0 && i < count ? m.num(i).n : 3;
        int low = i >= 0 && i < count ? m.num(i).v : 0;
        int other = j >= 0 && j < count ? m.num(j).n : 3;
        int k = far ? wild() : from(low - 2, known + 1);
        int l = far ? wild() : from(other - 15, other + 1);
        switch (upTo(10)) {
            case 0:
                same(run, "precision(" + i + ")", () -> x.precision(i), () -> m.num(i).n);
                break;
            case 1:
                same(run, "valuation(" + i + ")", () -> x.valuation(i), () -> m.num(i).v);
                break;
            case 2:
            case 3:
                same(run, "digit(" + i + ", " + k + ")", () -> x.digit(i, k), () -> m.digit(i, k));
                break;
            case 4:
                same(run, "like(" + i + ")", () -> x.like(i), () -> m.like(i));
                break;
            case 5:
                same(run, "agree(" + i + ", " + j + ")", () -> x.agree(i, j), () -> m.agree(i, j));
                break;
            case 6:
                same(run, "numerator(" + i + ")", () -> x.numerator(i), () -> m.guess(i)[0]);
                break;
            case 7:
                same(run, "denominator(" + i + ")", () -> x.denominator(i), () -> m.guess(i)[1]);
                break;
            case 8:
                same(run, "nothingShare()", () -> x.nothingShare(), () -> m.nothingShare());
                same(run, "meanDigits()", () -> x.meanDigits(), () -> m.meanDigits());
                break;
            case 9:
                same(run, "reach()", () -> x.reach(), () -> m.reach());
                int q = far ? wild() : from(-1, 100);
                if (m.numbers.size() > 0 || q < 2) {
                    same(run, "setPrime(" + q + ")", () -> x.setPrime(q), () -> m.setPrime(q));
                }
                break;
            default:
                same(run, "distance(" + i + ", " + k + ", " + j + ", " + l + ")", () -> x.distance(i, k, j, l),
                    () -> m.distance(i, k, j, l));
                break;
        }
    }

    private static void polynomials(int run, Henselhall x, Model m, boolean far) {
        int count = m.polys.size();
        int i = far ? wild() : index(count);
        int c = far ? wild() : whole(m.p, 10000);
        int r = far ? wild() : upTo(20) == 0 ? from(-1, m.p) : from(0, Math.min(6, m.p - 1));
        int side = far ? wild() : from(-1, 3);
        switch (upTo(8)) {
            case 0:
                same(run, "begin(" + c + ")", () -> x.begin(c), () -> m.begin(c));
                break;
            case 1:
            case 2:
                int power = far ? wild() : from(0, 7);
                same(run, "term(" + i + ", " + power + ", " + c + ")", () -> x.term(i, power, c),
                    () -> m.term(i, power, c));
                break;
            case 3:
                same(run, "sides(" + i + ")", () -> x.sides(i), () -> m.sides(i));
                break;
            case 4:
                same(run, "length(" + i + ", " + side + ")", () -> x.length(i, side), () -> m.length(i, side));
                break;
            case 5:
                same(run, "slope(" + i + ", " + side + ")", () -> x.slope(i, side), () -> m.slope(i, side));
                break;
            case 6:
                same(run, "residue(" + i + ", " + r + ")", () -> x.residue(i, r), () -> m.residue(i, r));
                break;
            case 7:
                int e = far ? wild() : from(0, m.p < 4 ? 14 : 4);
                same(run, "rootsModulo(" + i + ", " + e + ")", () -> x.rootsModulo(i, e), () -> m.rootsModulo(i, e));
                break;
            default:
                int known = far ? wild() : upTo(8) == 0 ? from(-1, 30) : from(1, m.reach());
                same(run, "lift(" + i + ", " + r + ", " + known + ")", () -> x.lift(i, r, known),
                    () -> m.lift(i, r, known));
                break;
        }
    }

    private static void others(int run, Henselhall x, Model m, boolean far) {
        int a = far ? wild() : whole(PRIMES[upTo(4)], upTo(1) == 0 ? 10000 : 60);
        int b = far ? wild() : whole(PRIMES[upTo(4)], upTo(1) == 0 ? 10000 : 60);
        int r = far ? wild() : upTo(20) == 0 ? from(-1, 4) : upTo(m.size - 1);
        int c = far ? wild() : upTo(20) == 0 ? from(-1, 4) : upTo(m.size - 1);
        switch (upTo(11)) {
            case 0:
                int place = far ? wild() : upTo(2) == 0 ? from(-1, 10008) : new int[] {0, 2, 3, 5, 7, 11, 9967,
                    9973}[upTo(7)];
                same(run, "symbol(" + a + ", " + b + ", " + place + ")", () -> x.symbol(a, b, place),
                    () -> m.symbol(a, b, place));
                break;
            case 1:
                same(run, "obstacle(" + a + ", " + b + ")", () -> x.obstacle(a, b), () -> m.obstacle(a, b));
                break;
            case 2:
                int s = far ? wild() : upTo(3) == 0 ? from(0, 5) : from(2, 4);
                same(run, "setSize(" + s + ")", () -> x.setSize(s), () -> m.setSize(s));
                for (int k = 0; k < m.size * m.size; k++) {
                    int place1 = k / m.size;
                    int place2 = k % m.size;
                    int entry = whole(m.p, upTo(2) == 0 ? 999 : 30);
                    same(run, "setEntry(" + place1 + ", " + place2 + ", " + entry + ")",
                        () -> x.setEntry(place1, place2, entry), () -> m.setEntry(place1, place2, entry));
                }
                break;
            case 3:
                int e = far ? wild() : whole(m.p, 999);
                same(run, "setEntry(" + r + ", " + c + ", " + e + ")", () -> x.setEntry(r, c, e),
                    () -> m.setEntry(r, c, e));
                break;
            case 4:
                if (m.size > 1) {
                    copyRow(run, x, m, r, from(-1, 2) * (upTo(2) == 0 ? m.p : 1));
                }
                break;
            case 5:
                same(run, "determinant()", () -> x.determinant(), () -> m.determinant());
                break;
            case 6:
                same(run, "rank()", () -> x.rank(), () -> m.rank());
                break;
            case 7:
            case 8:
                int k = far ? wild() : from(-1, 4);
                same(run, "shape(" + k + ")", () -> x.shape(k), () -> m.shape(k));
                break;
            case 9:
                int f = far ? wild() : whole(m.p, 10000);
                same(run, "value(" + f + ")", () -> x.value(f), () -> m.value(f));
                break;
            case 10:
                int d = far ? wild() : from(-1, 12);
                same(run, "difference(" + d + ")", () -> x.difference(d), () -> m.difference(d));
                break;
            default:
                same(run, "isSound()", () -> x.isSound(), () -> true);
                break;
        }
    }

    /** Rows that hang on one another make ranks that are not full. */
    private static void copyRow(int run, Henselhall x, Model m, int r, int times) {
        if (r < 0 || r >= m.size) {
            return;
        }
        int to = (r + 1) % m.size;
        for (int c = 0; c < m.size; c++) {
            int column = c;
            int entry = m.entries[r][c] * times;
            same(run, "setEntry(" + to + ", " + c + ", " + entry + ")", () -> x.setEntry(to, column, entry),
                () -> m.setEntry(to, column, entry));
        }
    }
}
