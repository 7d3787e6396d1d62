import java.util.NoSuchElementException;

/** A house of numbers near a prime; the document's promises are told at the methods that keep them. */
public final class Henselhall {
    private static final int GREATEST_FRACTION = 1000000;
    private static final int GREATEST_PRECISION = 20;
    private static final int GREATEST_MORE = 20;
    private static final int GREATEST_WHOLE = 10000;
    private static final int GREATEST_ENTRY = 999;
    private static final int GREATEST_PRIME = 97;

    private final Rack rack;
    private final Matrix matrix;

    public Henselhall() {
        rack = new Rack();
        matrix = new Matrix();
    }

    // ---- numbers

    public int setPrime(int prime) throws IllegalArgumentException, UnsupportedOperationException {
        if (prime > GREATEST_PRIME || !Whole.isPrime(prime)) {
            throw new IllegalArgumentException("no prime from 2 to 97");
        }
        if (rack.count > 0) {
            throw new UnsupportedOperationException("there are numbers");
        }
        int before = rack.near.prime;
        rack.near.turnTo(prime);
        return before;
    }

    public int reach() {
        return rack.near.last;
    }

    public int give(int numerator, int denominator, int precision)
            throws IllegalArgumentException, IllegalStateException {
        needWithin(numerator, -GREATEST_FRACTION, GREATEST_FRACTION);
        needWithin(denominator, 1, GREATEST_FRACTION);
        needWithin(precision, -GREATEST_PRECISION, GREATEST_PRECISION);
        needRoom();
        return rack.addFraction(numerator, denominator, precision);
    }

    public int add(int number, int other) throws IndexOutOfBoundsException, IllegalStateException {
        needNumber(number);
        needNumber(other);
        needRoom();
        return rack.addMade(Num.SUM, number, other);
    }

    public int subtract(int number, int other) throws IndexOutOfBoundsException, IllegalStateException {
        needNumber(number);
        needNumber(other);
        needRoom();
        return rack.addMade(Num.DIFFERENCE, number, other);
    }

    public int multiply(int number, int other)
            throws IndexOutOfBoundsException, ArithmeticException, IllegalStateException {
        needNumber(number);
        needNumber(other);
        if (rack.numbered(number).low + rack.numbered(other).low < -Near.FARTHEST) {
            throw new ArithmeticException("the valuation would be less than -60");
        }
        needRoom();
        return rack.addMade(Num.PRODUCT, number, other);
    }

    public int divide(int number, int other)
            throws IndexOutOfBoundsException, ArithmeticException, IllegalStateException {
        needNumber(number);
        needNumber(other);
        Num divisor = rack.numbered(other);
        if (divisor.isNothing()) {
            throw new ArithmeticException("the divisor is nothing up to its precision");
        }
        if (rack.numbered(number).low - divisor.low < -Near.FARTHEST) {
            throw new ArithmeticException("the valuation would be less than -60");
        }
        needRoom();
        return rack.addMade(Num.QUOTIENT, number, other);
    }

    public int root(int number)
            throws IndexOutOfBoundsException, UnsupportedOperationException, IllegalStateException {
        needNumber(number);
        if (!rack.hasSquareRoot(rack.numbered(number))) {
            throw new UnsupportedOperationException("it has no square root");
        }
        needRoom();
        return rack.addMade(Num.ROOT, number, Num.NONE);
    }

    public int unity(int number)
            throws IndexOutOfBoundsException, UnsupportedOperationException, IllegalStateException {
        needNumber(number);
        Num source = rack.numbered(number);
        if (source.isNothing() || source.low != 0) {
            throw new UnsupportedOperationException("its valuation is not 0, or it is nothing");
        }
        needRoom();
        return rack.addMade(Num.UNITY, number, Num.NONE);
    }

    public int precision(int number) throws IndexOutOfBoundsException {
        needNumber(number);
        return rack.numbered(number).high;
    }

    public int valuation(int number) throws IndexOutOfBoundsException {
        needNumber(number);
        return rack.numbered(number).low;
    }

    public int digit(int number, int exponent) throws IndexOutOfBoundsException, NoSuchElementException {
        needNumber(number);
        Num source = rack.numbered(number);
        if (exponent >= source.high) {
            throw new NoSuchElementException("the digit is not known");
        }
        return rack.digitOf(source, exponent);
    }

    public int refine(int number, int more)
            throws IndexOutOfBoundsException, IllegalArgumentException, UnsupportedOperationException {
        needNumber(number);
        needWithin(more, 1, GREATEST_MORE);
        if (!rack.markFractionsUnder(number)) {
            throw new UnsupportedOperationException("it hangs on no fraction");
        }
        rack.findMore(more);
        return rack.numbered(number).high;
    }

    public int like(int number) throws IndexOutOfBoundsException {
        needNumber(number);
        return rack.lowestLike(number);
    }

    public boolean agree(int number, int other) throws IndexOutOfBoundsException {
        needNumber(number);
        needNumber(other);
        return rack.splitsAt(rack.numbered(number), rack.numbered(other)) == Rack.NOWHERE;
    }

    public int numerator(int number)
            throws IndexOutOfBoundsException, UnsupportedOperationException, NoSuchElementException {
        needNumber(number);
        Num source = rack.numbered(number);
        return (int) rack.guessedTop(source, guessedBottomOrThrow(source));
    }

    public int denominator(int number)
            throws IndexOutOfBoundsException, UnsupportedOperationException, NoSuchElementException {
        needNumber(number);
        return (int) guessedBottomOrThrow(rack.numbered(number));
    }

    public int distance(int number, int exponent, int other, int otherExponent)
            throws IndexOutOfBoundsException, IllegalArgumentException {
        needNumber(number);
        needNumber(other);
        Num one = rack.numbered(number);
        Num two = rack.numbered(other);
        needWithin(exponent, -Near.FARTHEST, one.high);
        needWithin(otherExponent, -Near.FARTHEST, two.high);
        int join = Math.min(Math.min(exponent, otherExponent), rack.splitsAt(one, two));
        return exponent - join + otherExponent - join;
    }

    // ---- polynomials

    public int begin(int coefficient) throws IllegalArgumentException, IllegalStateException {
        needWholeNotZero(coefficient);
        if (rack.book.isFull()) {
            throw new IllegalStateException("there are 8 polynomials");
        }
        return rack.book.open(coefficient);
    }

    public int term(int polynomial, int power, int coefficient)
            throws IndexOutOfBoundsException, IllegalArgumentException {
        needPolynomial(polynomial);
        Polynomial source = rack.book.page(polynomial);
        needWithin(power, source.count, Polynomial.MOST - 1);
        needWholeNotZero(coefficient);
        source.append(power, coefficient);
        return source.termCount();
    }

    public int sides(int polynomial) throws IndexOutOfBoundsException {
        needPolynomial(polynomial);
        return rack.book.page(polynomial).sideCount(rack.near.prime);
    }

    public int length(int polynomial, int side) throws IndexOutOfBoundsException {
        needSide(polynomial, side);
        Polynomial source = rack.book.page(polynomial);
        int start = source.sideStart(side, rack.near.prime);
        return source.sideEnd(start, rack.near.prime) - start;
    }

    public int slope(int polynomial, int side) throws IndexOutOfBoundsException {
        needSide(polynomial, side);
        Polynomial source = rack.book.page(polynomial);
        return source.steepness(source.sideStart(side, rack.near.prime), rack.near.prime);
    }

    public char residue(int polynomial, int residue) throws IndexOutOfBoundsException, IllegalArgumentException {
        needPolynomial(polynomial);
        needWithin(residue, 0, rack.near.prime - 1);
        return rack.book.page(polynomial).rootSign(residue, rack.near.prime);
    }

    public int lift(int polynomial, int residue, int precision)
            throws IndexOutOfBoundsException, IllegalArgumentException, UnsupportedOperationException,
            IllegalStateException {
        needPolynomial(polynomial);
        needWithin(residue, 0, rack.near.prime - 1);
        needWithin(precision, 1, rack.near.last);
        if (rack.book.page(polynomial).rootSign(residue, rack.near.prime) != Polynomial.SIMPLE) {
            throw new UnsupportedOperationException("no simple root modulo p");
        }
        needRoom();
        return rack.addLifted(polynomial, residue, precision);
    }

    public int rootsModulo(int polynomial, int exponent)
            throws IndexOutOfBoundsException, IllegalArgumentException {
        needPolynomial(polynomial);
        needWithin(exponent, 1, rack.near.last);
        long modulus = rack.near.power(exponent);
        if (modulus > GREATEST_WHOLE) {
            throw new IllegalArgumentException("the power is greater than 10000");
        }
        return rack.book.page(polynomial).rootCount((int) modulus);
    }

    // ---- symbols, a matrix, a row

    public int symbol(int a, int b, int place) throws IllegalArgumentException {
        needWholeNotZero(a);
        needWholeNotZero(b);
        needWithin(place, 0, GREATEST_WHOLE);
        if (place != 0 && !Whole.isPrime(place)) {
            throw new IllegalArgumentException("the place is no prime");
        }
        return Symbols.signAt(a, b, place);
    }

    public int obstacle(int a, int b) throws IllegalArgumentException, NoSuchElementException {
        needWholeNotZero(a);
        needWholeNotZero(b);
        int place = Symbols.firstMinus(a, b, GREATEST_WHOLE);
        if (place < 0) {
            throw new NoSuchElementException("all symbols are 1");
        }
        return place;
    }

    public int setSize(int size) throws IllegalArgumentException {
        needWithin(size, 1, Matrix.MOST);
        int before = matrix.size;
        matrix.clearTo(size);
        return before;
    }

    public int setEntry(int row, int column, int entry)
            throws IndexOutOfBoundsException, IllegalArgumentException {
        if (!matrix.has(row, column)) {
            throw new IndexOutOfBoundsException("no such row or column");
        }
        needWithin(entry, -GREATEST_ENTRY, GREATEST_ENTRY);
        return matrix.replace(row, column, entry);
    }

    public long determinant() {
        return matrix.wholeMinor();
    }

    public int rank() {
        return matrix.fullRows();
    }

    public int shape(int index) throws NoSuchElementException {
        if (index < 0 || index >= matrix.fullRows()) {
            throw new NoSuchElementException("the index is not less than the rank");
        }
        return matrix.exponentAt(index, rack.near.prime);
    }

    public int value(int value) throws IllegalArgumentException, IllegalStateException {
        needWithin(value, -GREATEST_WHOLE, GREATEST_WHOLE);
        if (rack.row.isFull()) {
            throw new IllegalStateException("the row has 12 values");
        }
        return rack.row.append(value);
    }

    public int difference(int index) throws NoSuchElementException {
        if (index < 0 || index >= rack.row.count) {
            throw new NoSuchElementException("the row has not so many values");
        }
        return rack.row.differenceOf(index);
    }

    public int at(int number)
            throws IndexOutOfBoundsException, UnsupportedOperationException, IllegalStateException {
        needNumber(number);
        Num source = rack.numbered(number);
        if (source.low < 0 || rack.rowValueReach(source, rack.row.count) <= 0) {
            throw new UnsupportedOperationException("it is not whole, or no digit of the value would be known");
        }
        needRoom();
        return rack.addRowValue(number);
    }

    // ---- figures

    public float nothingShare() throws ArithmeticException {
        if (rack.count == 0) {
            throw new ArithmeticException("there are no numbers");
        }
        return (float) rack.nothingCount() / (float) rack.count;
    }

    public double meanDigits() throws ArithmeticException {
        if (rack.count == 0) {
            throw new ArithmeticException("there are no numbers");
        }
        return (double) rack.digitCount() / (double) rack.count;
    }

    public boolean isSound() {
        for (int number = 0; number < rack.count; number++) {
            if (!rack.isTrueStill(number)) {
                return false;
            }
        }
        return matrix.holdsTogether(rack.near.prime);
    }

    // ---- what the calls above ask for before they change anything

    private void needNumber(int number) {
        if (number < 0 || number >= rack.count) {
            throw new IndexOutOfBoundsException("no such number");
        }
    }

    private void needRoom() {
        if (rack.isFull()) {
            throw new IllegalStateException("there are 40 numbers");
        }
    }

    private void needPolynomial(int polynomial) {
        if (polynomial < 0 || polynomial >= rack.book.count) {
            throw new IndexOutOfBoundsException("no such polynomial");
        }
    }

    private void needSide(int polynomial, int side) {
        needPolynomial(polynomial);
        if (side < 0 || side >= rack.book.page(polynomial).sideCount(rack.near.prime)) {
            throw new IndexOutOfBoundsException("no such side");
        }
    }

    private static void needWithin(int number, int least, int greatest) {
        if (number < least || number > greatest) {
            throw new IllegalArgumentException("out of range");
        }
    }

    private static void needWholeNotZero(int number) {
        if (number == 0 || number < -GREATEST_WHOLE || number > GREATEST_WHOLE) {
            throw new IllegalArgumentException("0, or out of range");
        }
    }

    private long guessedBottomOrThrow(Num source) {
        if (!source.hasWholeDigits()) {
            throw new UnsupportedOperationException("its valuation or precision does not do");
        }
        long bottom = rack.guessedBottom(source);
        if (bottom == 0) {
            throw new NoSuchElementException("there is no such fraction");
        }
        return bottom;
    }

    /** Whole numbers and their rests; the divisors that are not constants are tested here. */
    private static final class Whole {
        /** Euclid needs fewer than 100 steps for any two longs. */
        private static final int MOST_STEPS = 100;
        private static final int MOST_FACTORS = 64;

        static long rest(long number, long modulus) {
            if (modulus <= 0) {
                return 0;
            }
            long signed = number % modulus;
            return signed < 0 ? signed + modulus : signed;
        }

        static long part(long number, long divisor) {
            return divisor != 0 ? number / divisor : 0;
        }

        /** The moduli are at most 1000000000, so that the product of two rests is a long. */
        static long timesModulo(long one, long two, long modulus) {
            return rest(rest(one, modulus) * rest(two, modulus), modulus);
        }

        static long powerModulo(long base, long exponent, long modulus) {
            long result = rest(1, modulus);
            long square = rest(base, modulus);
            for (long left = exponent; left > 0; left = left >> 1) {
                if ((left & 1) == 1) {
                    result = timesModulo(result, square, modulus);
                }
                square = timesModulo(square, square, modulus);
            }
            return result;
        }

        static long inverseModulo(long number, long modulus) {
            long ahead = modulus;
            long here = rest(number, modulus);
            long aheadTimes = 0;
            long hereTimes = 1;
            for (int step = 0; step < MOST_STEPS && here != 0; step++) {
                long quotient = part(ahead, here);
                long next = ahead - quotient * here;
                long nextTimes = aheadTimes - quotient * hereTimes;
                ahead = here;
                aheadTimes = hereTimes;
                here = next;
                hereTimes = nextTimes;
            }
            return rest(aheadTimes, modulus);
        }

        static long greatestCommon(long one, long two) {
            long ahead = Math.abs(one);
            long here = Math.abs(two);
            for (int step = 0; step < MOST_STEPS && here != 0; step++) {
                long next = rest(ahead, here);
                ahead = here;
                here = next;
            }
            return ahead;
        }

        /** How often the prime divides the number, which is not 0. */
        static int factorCount(long number, int prime) {
            long left = number;
            int found = 0;
            while (found < MOST_FACTORS && left != 0 && rest(left, prime) == 0) {
                left = part(left, prime);
                found++;
            }
            return found;
        }

        static long withoutFactors(long number, int prime) {
            long left = number;
            for (int found = 0; found < MOST_FACTORS && left != 0 && rest(left, prime) == 0; found++) {
                left = part(left, prime);
            }
            return left;
        }

        static boolean isPrime(int number) {
            if (number < 2) {
                return false;
            }
            for (int factor = 2; (long) factor * factor <= number; factor++) {
                if (rest(number, factor) == 0) {
                    return false;
                }
            }
            return true;
        }
    }

    /** The prime, and its powers up to the reach. */
    private static final class Near {
        static final int FARTHEST = 60;
        private static final int FIRST_PRIME = 5;
        private static final long GREATEST_POWER = 1000000000L;
        /** 2 to the power of 29 is the last one of the longest row. */
        private static final int MOST_POWERS = 30;

        int prime;
        int last;
        final long[] powers = new long[MOST_POWERS];

        Near() {
            turnTo(FIRST_PRIME);
        }

        void turnTo(int newPrime) {
            prime = newPrime;
            last = 0;
            long power = 1;
            for (int exponent = 0; exponent < powers.length && power <= GREATEST_POWER; exponent++) {
                powers[exponent] = power;
                last = exponent;
                power = power * newPrime;
            }
        }

        long power(int exponent) {
            int within = Math.max(0, Math.min(exponent, last));
            return within < powers.length ? powers[within] : 1;
        }
    }

    /**
     * A number: unit times p to the power of low, known below p to the power of high; nothing if low is high.
     * The early ones are what it was when it was made.
     */
    private static final class Num {
        static final int GIVEN = 0;
        static final int SUM = 1;
        static final int DIFFERENCE = 2;
        static final int PRODUCT = 3;
        static final int QUOTIENT = 4;
        static final int ROOT = 5;
        static final int UNITY = 6;
        static final int LIFTED = 7;
        static final int ROW_VALUE = 8;
        static final int NONE = -1;

        int kind = GIVEN;
        int first = NONE;
        int second = NONE;
        int top;
        int bottom;
        int asked;
        int extent;
        boolean marked;
        int low;
        int high;
        long unit;
        int earlyLow;
        int earlyHigh;
        long earlyUnit;

        boolean isNothing() {
            return low >= high;
        }

        boolean hasWholeDigits() {
            return low >= 0 && high > 0;
        }

        boolean isMadeOfOthers() {
            return kind != GIVEN && kind != LIFTED;
        }

        void become(int newKind, int newFirst, int newSecond) {
            kind = newKind;
            first = newFirst;
            second = newSecond;
        }

        void keepEarly() {
            earlyLow = low;
            earlyHigh = high;
            earlyUnit = unit;
        }

        void copyEarlyOf(Num other) {
            low = other.earlyLow;
            high = other.earlyHigh;
            unit = other.earlyUnit;
        }

        boolean isLike(Num other) {
            return low == other.low && high == other.high && unit == other.unit;
        }
    }

    /** The numbers, how each comes of others, and how they are found anew. */
    private static final class Rack {
        static final int MOST = 40;
        static final int NOWHERE = 1000;
        /** Each step of Newton's doubles the digits, of which there are at most 29. */
        private static final int DOUBLINGS = 6;

        final Near near = new Near();
        final Book book = new Book();
        final Row row = new Row();
        int count;
        private final Num[] numbers = new Num[MOST];
        /** Where what is looked at just once is found. */
        private final Num spare = new Num();
        private final Num result = new Num();

        Rack() {
            for (int number = 0; number < numbers.length; number++) {
                numbers[number] = new Num();
            }
        }

        boolean isFull() {
            return count >= numbers.length;
        }

        Num numbered(int number) {
            return number >= 0 && number < numbers.length ? numbers[number] : spare;
        }

        int addFraction(int top, int bottom, int asked) {
            Num made = numbered(count);
            made.become(Num.GIVEN, Num.NONE, Num.NONE);
            made.top = top;
            made.bottom = bottom;
            made.asked = asked;
            find(made);
            return keep(made);
        }

        int addMade(int kind, int first, int second) {
            Num made = numbered(count);
            made.become(kind, first, second);
            find(made);
            return keep(made);
        }

        /** Polynomials and rows only grow at their ends, so that how far they went tells what they were. */
        int addLifted(int polynomial, int residue, int asked) {
            Num made = numbered(count);
            made.become(Num.LIFTED, Num.NONE, Num.NONE);
            made.top = polynomial;
            made.bottom = residue;
            made.asked = asked;
            made.extent = book.page(polynomial).count;
            find(made);
            return keep(made);
        }

        int addRowValue(int number) {
            Num made = numbered(count);
            made.become(Num.ROW_VALUE, number, Num.NONE);
            made.extent = row.count;
            find(made);
            return keep(made);
        }

        private int keep(Num made) {
            made.keepEarly();
            count++;
            return count - 1;
        }

        private void find(Num made) {
            Num one = numbered(made.first);
            Num two = numbered(made.second);
            switch (made.kind) {
                case Num.GIVEN:
                    findFraction(made);
                    break;
                case Num.SUM:
                    findSum(made, one, two, 1);
                    break;
                case Num.DIFFERENCE:
                    findSum(made, one, two, -1);
                    break;
                case Num.PRODUCT:
                    findProduct(made, one, two);
                    break;
                case Num.QUOTIENT:
                    findQuotient(made, one, two);
                    break;
                case Num.ROOT:
                    findSquareRoot(made, one);
                    break;
                case Num.UNITY:
                    findRootOfUnity(made, one);
                    break;
                case Num.LIFTED:
                    findLifted(made);
                    break;
                default:
                    findRowValue(made, one);
                    break;
            }
        }

        /** Makes it the whole one times p to the power of base, as far as known, but within the reach and 60. */
        private void settle(Num made, int base, int known, long whole) {
            int high = Math.min(known, Near.FARTHEST);
            int span = Math.min(high - base, near.last);
            long left = span > 0 ? Whole.rest(whole, near.power(span)) : 0;
            if (left == 0) {
                settleNothing(made, high);
                return;
            }
            made.low = base + Whole.factorCount(left, near.prime);
            made.high = base + span;
            made.unit = Whole.withoutFactors(left, near.prime);
        }

        private void settleNothing(Num made, int high) {
            made.low = high;
            made.high = high;
            made.unit = 0;
        }

        private void findFraction(Num made) {
            int base = Whole.factorCount(made.top, near.prime) - Whole.factorCount(made.bottom, near.prime);
            if (made.top == 0 || base >= made.asked) {
                settleNothing(made, made.asked);
                return;
            }
            int known = Math.min(made.asked, base + near.last);
            long modulus = near.power(known - base);
            long above = Whole.withoutFactors(made.top, near.prime);
            long below = Whole.inverseModulo(Whole.withoutFactors(made.bottom, near.prime), modulus);
            settle(made, base, known, Whole.timesModulo(above, below, modulus));
        }

        /** The number divided by p to the power of base, which is at most its valuation, as far as known. */
        private long wholeFrom(Num source, int base, int known) {
            if (source.low >= known || source.low < base) {
                return 0;
            }
            return Whole.timesModulo(source.unit, near.power(source.low - base), near.power(known - base));
        }

        private void findSum(Num made, Num one, Num two, int sign) {
            int known = Math.min(one.high, two.high);
            int base = Math.min(one.low, two.low);
            settle(made, base, known, wholeFrom(one, base, known) + sign * wholeFrom(two, base, known));
        }

        private void findProduct(Num made, Num one, Num two) {
            int base = one.low + two.low;
            int known = Math.min(one.low + two.high, two.low + one.high);
            settle(made, base, known, Whole.timesModulo(one.unit, two.unit, near.power(known - base)));
        }

        private void findQuotient(Num made, Num one, Num two) {
            int base = one.low - two.low;
            int known = Math.min(one.high - two.low, one.low + two.high - 2 * two.low);
            long modulus = near.power(known - base);
            settle(made, base, known, Whole.timesModulo(one.unit, Whole.inverseModulo(two.unit, modulus), modulus));
        }

        boolean hasSquareRoot(Num source) {
            if (source.isNothing() || (source.low & 1) != 0) {
                return false;
            }
            if (near.prime == 2) {
                return source.high - source.low >= 3 && (source.unit & 7) == 1;
            }
            return rootDigit(Whole.rest(source.unit, near.prime)) > 0;
        }

        private int rootDigit(long square) {
            for (int digit = 1; digit < near.prime; digit++) {
                if (Whole.rest((long) digit * digit, near.prime) == square) {
                    return digit;
                }
            }
            return 0;
        }

        private void findSquareRoot(Num made, Num source) {
            int base = source.low / 2;
            int span = source.high - source.low;
            if (near.prime == 2) {
                settle(made, base, base + span - 1, rootNearTwo(source.unit, span));
                return;
            }
            long modulus = near.power(span);
            long half = Whole.inverseModulo(2, modulus);
            long root = rootDigit(Whole.rest(source.unit, near.prime));
            for (int step = 0; step < DOUBLINGS; step++) {
                long partner = Whole.timesModulo(source.unit, Whole.inverseModulo(root, modulus), modulus);
                root = Whole.timesModulo(root + partner, half, modulus);
            }
            settle(made, base, base + span, root);
        }

        /** Near 2 a digit of the root turns the digit of the square that is one farther. */
        private long rootNearTwo(long square, int span) {
            long root = 1;
            for (int exponent = 3; exponent < span && exponent < near.last; exponent++) {
                if (Whole.rest(root * root - square, near.power(exponent + 1)) != 0) {
                    root = root + near.power(exponent - 1);
                }
            }
            return root;
        }

        private void findRootOfUnity(Num made, Num source) {
            int span = source.high - source.low;
            long modulus = near.power(span);
            long root = source.unit;
            for (int step = 0; step < span; step++) {
                root = Whole.powerModulo(root, near.prime, modulus);
            }
            settle(made, 0, span, root);
        }

        private void findLifted(Num made) {
            Polynomial source = book.page(made.top);
            long modulus = near.power(made.asked);
            long root = made.bottom;
            for (int step = 0; step < DOUBLINGS; step++) {
                long rise = source.riseAt(root, modulus, made.extent);
                long off = source.worthAt(root, modulus, made.extent);
                root = Whole.rest(root - Whole.timesModulo(off, Whole.inverseModulo(rise, modulus), modulus), modulus);
            }
            settle(made, 0, made.asked, root);
        }

        /** The exponent up to which the value of so long a row at the number is known. */
        int rowValueReach(Num source, int extent) {
            return Math.min(source.high, near.last) - row.greatestLoss(extent, near.prime);
        }

        /** The span is above 0: it was when the number was made, and no number ever knows less than it did. */
        private void findRowValue(Num made, Num source) {
            int known = Math.min(source.high, near.last);
            int span = rowValueReach(source, made.extent);
            long point = wholeFrom(source, 0, known);
            settle(made, 0, span, rowSum(point, near.power(known), near.power(span), made.extent));
        }

        /** Of x (x - 1) .. / k! the factors p are taken off both parts, and the rest below is turned over. */
        private long rowSum(long point, long modulus, long lesser, int extent) {
            long sum = 0;
            long falling = Whole.rest(1, modulus);
            long below = 1;
            long lost = 1;
            for (int k = 0; k < extent && k < Row.MOST; k++) {
                if (k > 0) {
                    falling = Whole.timesModulo(falling, point - k + 1, modulus);
                    below = Whole.timesModulo(below, Whole.withoutFactors(k, near.prime), lesser);
                    lost = lost * near.power(Whole.factorCount(k, near.prime));
                }
                long chosen = Whole.timesModulo(Whole.part(falling, lost), Whole.inverseModulo(below, lesser), lesser);
                sum = Whole.rest(sum + Whole.timesModulo(chosen, row.differenceOf(k), lesser), lesser);
            }
            return sum;
        }

        int digitOf(Num source, int exponent) {
            if (exponent < source.low || exponent >= source.high) {
                return 0;
            }
            return (int) Whole.rest(Whole.part(source.unit, near.power(exponent - source.low)), near.prime);
        }

        /** What a number comes of has lower numbers, so that one way down marks all. */
        boolean markFractionsUnder(int number) {
            for (int k = 0; k < numbers.length; k++) {
                numbers[k].marked = k == number;
            }
            boolean found = false;
            for (int k = Math.min(number, numbers.length - 1); k >= 0; k--) {
                if (numbers[k].marked) {
                    mark(numbers[k].first);
                    mark(numbers[k].second);
                    found = found || numbers[k].kind == Num.GIVEN;
                }
            }
            return found;
        }

        private void mark(int number) {
            if (number >= 0 && number < numbers.length) {
                numbers[number].marked = true;
            }
        }

        void findMore(int more) {
            for (int k = 0; k < count && k < numbers.length; k++) {
                Num made = numbers[k];
                if (made.marked && made.kind == Num.GIVEN) {
                    made.asked = Math.min(made.asked + more, Near.FARTHEST);
                }
                find(made);
            }
        }

        int lowestLike(int number) {
            Num source = numbered(number);
            for (int k = 0; k < number && k < numbers.length; k++) {
                if (numbers[k].isLike(source)) {
                    return k;
                }
            }
            return number;
        }

        /** The exponent of the lowest digit in which two differ, or NOWHERE. */
        int splitsAt(Num one, Num two) {
            findSum(spare, one, two, -1);
            return spare.isNothing() ? NOWHERE : spare.low;
        }

        private int guessSpan(Num source) {
            return Math.min(source.high, near.last);
        }

        /** The first rest of Euclid's that is small enough belongs to the fraction, if there is one; else 0. */
        long guessedBottom(Num source) {
            int span = guessSpan(source);
            long modulus = near.power(span);
            long ahead = modulus;
            long here = wholeFrom(source, 0, span);
            long aheadTimes = 0;
            long hereTimes = 1;
            for (int step = 0; step < Whole.MOST_STEPS && 2 * here * here >= modulus; step++) {
                long quotient = Whole.part(ahead, here);
                long next = ahead - quotient * here;
                long nextTimes = aheadTimes - quotient * hereTimes;
                ahead = here;
                aheadTimes = hereTimes;
                here = next;
                hereTimes = nextTimes;
            }
            long bottom = Math.abs(hereTimes);
            boolean small = 2 * bottom * bottom < modulus;
            boolean lowest = Whole.greatestCommon(here, bottom) == 1 && Whole.rest(bottom, near.prime) != 0;
            return small && lowest ? bottom : 0;
        }

        long guessedTop(Num source, long bottom) {
            int span = guessSpan(source);
            long modulus = near.power(span);
            long top = Whole.timesModulo(bottom, wholeFrom(source, 0, span), modulus);
            return 2 * top > modulus ? top - modulus : top;
        }

        int nothingCount() {
            int found = 0;
            for (int k = 0; k < count && k < numbers.length; k++) {
                if (numbers[k].isNothing()) {
                    found++;
                }
            }
            return found;
        }

        int digitCount() {
            int sum = 0;
            for (int k = 0; k < count && k < numbers.length; k++) {
                sum = sum + numbers[k].high - numbers[k].low;
            }
            return sum;
        }

        boolean isTrueStill(int number) {
            Num made = numbered(number);
            if (made.isMadeOfOthers()) {
                result.copyEarlyOf(made);
                if (splitsAt(made, result) != NOWHERE) {
                    return false;
                }
            }
            if (made.kind == Num.ROOT) {
                findProduct(result, made, made);
                return splitsAt(result, numbered(made.first)) == NOWHERE;
            }
            return made.kind != Num.LIFTED || isLiftedRoot(made);
        }

        private boolean isLiftedRoot(Num made) {
            long point = wholeFrom(made, 0, made.high);
            return book.page(made.top).worthAt(point, near.power(made.high), made.extent) == 0;
        }
    }

    /** The polynomials. */
    private static final class Book {
        static final int MOST = 8;

        int count;
        private final Polynomial[] pages = new Polynomial[MOST];

        Book() {
            for (int page = 0; page < pages.length; page++) {
                pages[page] = new Polynomial();
            }
        }

        boolean isFull() {
            return count >= pages.length;
        }

        Polynomial page(int number) {
            return pages[number >= 0 && number < pages.length ? number : 0];
        }

        int open(int coefficient) {
            page(count).append(0, coefficient);
            count++;
            return count - 1;
        }
    }

    /** A polynomial, and its polygon, whose sides are told by the power at which they start. */
    private static final class Polynomial {
        static final int MOST = 7;
        static final char NO_ROOT = '-';
        static final char SIMPLE = 's';
        static final char MANIFOLD = 'm';

        /** One more than the highest power. */
        int count;
        private final int[] coefficients = new int[MOST];

        void append(int power, int coefficient) {
            if (power >= 0 && power < coefficients.length) {
                coefficients[power] = coefficient;
                count = power + 1;
            }
        }

        int termCount() {
            int found = 0;
            for (int power = 0; power < coefficients.length; power++) {
                if (coefficients[power] != 0) {
                    found++;
                }
            }
            return found;
        }

        private int heightAt(int power, int prime) {
            if (power < 0 || power >= coefficients.length) {
                return 0;
            }
            return Whole.factorCount(coefficients[power], prime);
        }

        /** The farthest power to which the polygon rises least, or the start if there is none behind it. */
        int sideEnd(int start, int prime) {
            int end = start;
            int from = heightAt(start, prime);
            for (int power = start + 1; power < count && power < coefficients.length; power++) {
                if (coefficients[power] != 0) {
                    int rise = heightAt(power, prime) - from;
                    int least = heightAt(end, prime) - from;
                    if (end == start || rise * (end - start) <= least * (power - start)) {
                        end = power;
                    }
                }
            }
            return end;
        }

        int sideCount(int prime) {
            int found = 0;
            int start = 0;
            while (found < MOST && start < count - 1) {
                start = sideEnd(start, prime);
                found++;
            }
            return found;
        }

        int sideStart(int side, int prime) {
            int start = 0;
            for (int k = 0; k < side && k < MOST; k++) {
                start = sideEnd(start, prime);
            }
            return start;
        }

        int steepness(int start, int prime) {
            int end = sideEnd(start, prime);
            int rise = heightAt(end, prime) - heightAt(start, prime);
            long common = Whole.greatestCommon(rise, end - start);
            return (int) (100 * Whole.part(rise, common) + Whole.part(end - start, common));
        }

        long worthAt(long point, long modulus, int extent) {
            long worth = 0;
            for (int power = Math.min(extent, coefficients.length) - 1; power >= 0; power--) {
                worth = Whole.rest(worth * point + coefficients[power], modulus);
            }
            return worth;
        }

        /** The value of the derivative. */
        long riseAt(long point, long modulus, int extent) {
            long rise = 0;
            for (int power = Math.min(extent, coefficients.length) - 1; power >= 1; power--) {
                rise = Whole.rest(rise * point + (long) power * coefficients[power], modulus);
            }
            return rise;
        }

        char rootSign(int residue, int prime) {
            if (worthAt(residue, prime, count) != 0) {
                return NO_ROOT;
            }
            return riseAt(residue, prime, count) != 0 ? SIMPLE : MANIFOLD;
        }

        int rootCount(int modulus) {
            int found = 0;
            for (int point = 0; point < modulus; point++) {
                if (worthAt(point, modulus, count) == 0) {
                    found++;
                }
            }
            return found;
        }
    }

    /** The symbols of two whole numbers. */
    private static final class Symbols {
        static int signAt(int a, int b, int place) {
            if (place == 0) {
                return a < 0 && b < 0 ? -1 : 1;
            }
            boolean minus = place == 2 ? isMinusAtTwo(a, b) : isMinusAtOdd(a, b, place);
            return minus ? -1 : 1;
        }

        private static boolean isMinusAtTwo(int a, int b) {
            int i = Whole.factorCount(a, 2);
            int j = Whole.factorCount(b, 2);
            long s = Whole.withoutFactors(a, 2);
            long t = Whole.withoutFactors(b, 2);
            long exponent = (s - 1) / 2 * ((t - 1) / 2) + i * ((t * t - 1) / 8) + j * ((s * s - 1) / 8);
            return (exponent & 1) == 1;
        }

        private static boolean isMinusAtOdd(int a, int b, int prime) {
            int i = Whole.factorCount(a, prime);
            int j = Whole.factorCount(b, prime);
            boolean minus = (i & j & ((prime - 1) / 2) & 1) == 1;
            if ((j & 1) == 1 && !isSquareModulo(Whole.withoutFactors(a, prime), prime)) {
                minus = !minus;
            }
            if ((i & 1) == 1 && !isSquareModulo(Whole.withoutFactors(b, prime), prime)) {
                minus = !minus;
            }
            return minus;
        }

        private static boolean isSquareModulo(long number, int prime) {
            return Whole.powerModulo(number, (prime - 1) / 2, prime) == 1;
        }

        /** At an odd prime that divides neither, the symbol is 1. */
        static int firstMinus(int a, int b, int farthest) {
            for (int place = 0; place <= farthest; place++) {
                boolean may = place == 0 || place == 2 || Whole.rest(a, place) == 0 || Whole.rest(b, place) == 0;
                if (may && (place == 0 || Whole.isPrime(place)) && signAt(a, b, place) == -1) {
                    return place;
                }
            }
            return -1;
        }
    }

    /** The matrix; a set of rows or columns is a number with a bit for each. */
    private static final class Matrix {
        static final int MOST = 4;
        private static final int SETS = 16;

        int size = 1;
        private final int[] entries = new int[MOST * MOST];
        private final long[] minors = new long[SETS * SETS];

        boolean has(int row, int column) {
            return row >= 0 && row < size && column >= 0 && column < size;
        }

        void clearTo(int newSize) {
            size = newSize;
            for (int k = 0; k < entries.length; k++) {
                entries[k] = 0;
            }
        }

        private int entryAt(int row, int column) {
            int place = row * MOST + column;
            return place >= 0 && place < entries.length ? entries[place] : 0;
        }

        int replace(int row, int column, int entry) {
            int before = entryAt(row, column);
            int place = row * MOST + column;
            if (place >= 0 && place < entries.length) {
                entries[place] = entry;
            }
            return before;
        }

        private long minorOf(int rows, int columns) {
            int place = rows * SETS + columns;
            return place >= 0 && place < minors.length ? minors[place] : 0;
        }

        /** Rising sets come behind all of their parts, so that each minor finds the lesser ones ready. */
        private void fillMinors() {
            int sets = 1 << size;
            for (int rows = 0; rows < sets; rows++) {
                for (int columns = 0; columns < sets; columns++) {
                    int place = rows * SETS + columns;
                    if (place < minors.length) {
                        minors[place] = expanded(rows, columns);
                    }
                }
            }
        }

        private static int lastOf(int set) {
            int last = 0;
            for (int k = 0; k < MOST; k++) {
                last = (set >> k & 1) == 1 ? k : last;
            }
            return last;
        }

        private long expanded(int rows, int columns) {
            if (Integer.bitCount(rows) != Integer.bitCount(columns)) {
                return 0;
            }
            if (rows == 0) {
                return 1;
            }
            int lastRow = lastOf(rows);
            int rowsAhead = rows & ~(1 << lastRow);
            long sum = 0;
            for (int column = 0; column < size; column++) {
                if ((columns >> column & 1) == 1) {
                    long part = entryAt(lastRow, column) * minorOf(rowsAhead, columns & ~(1 << column));
                    boolean minus = (Integer.bitCount(columns >> column + 1) & 1) == 1;
                    sum = minus ? sum - part : sum + part;
                }
            }
            return sum;
        }

        long wholeMinor() {
            fillMinors();
            int all = (1 << size) - 1;
            return minorOf(all, all);
        }

        int fullRows() {
            fillMinors();
            int found = 0;
            for (int rows = 0; rows < SETS; rows++) {
                for (int columns = 0; columns < SETS; columns++) {
                    if (isMinor(rows, columns) && minorOf(rows, columns) != 0) {
                        found = Math.max(found, Integer.bitCount(rows));
                    }
                }
            }
            return found;
        }

        /** Sets beyond the size may still hold what a greater matrix left there. */
        private boolean isMinor(int rows, int columns) {
            int sets = 1 << size;
            return rows < sets && columns < sets && Integer.bitCount(rows) == Integer.bitCount(columns);
        }

        private int leastExponent(int rowCount, int prime) {
            int least = -1;
            for (int rows = 0; rows < SETS; rows++) {
                for (int columns = 0; columns < SETS; columns++) {
                    long minor = minorOf(rows, columns);
                    if (isMinor(rows, columns) && Integer.bitCount(rows) == rowCount && minor != 0) {
                        int exponent = Whole.factorCount(minor, prime);
                        least = least < 0 ? exponent : Math.min(least, exponent);
                    }
                }
            }
            return least;
        }

        int exponentAt(int index, int prime) {
            fillMinors();
            return leastExponent(index + 1, prime) - leastExponent(index, prime);
        }

        boolean holdsTogether(int prime) {
            long left = wholeMinor();
            if (left == 0) {
                return true;
            }
            for (int index = 0; index < size; index++) {
                int exponent = exponentAt(index, prime);
                for (int k = 0; k < exponent; k++) {
                    if (Whole.rest(left, prime) != 0) {
                        return false;
                    }
                    left = Whole.part(left, prime);
                }
            }
            return Whole.rest(left, prime) != 0;
        }
    }

    /** The row and its differences. */
    private static final class Row {
        static final int MOST = 12;

        int count;
        private final int[] values = new int[MOST];

        boolean isFull() {
            return count >= values.length;
        }

        int append(int value) {
            if (count >= 0 && count < values.length) {
                values[count] = value;
                count++;
            }
            return count;
        }

        int differenceOf(int index) {
            long sum = 0;
            long ways = 1;
            for (int k = 0; k <= index && k < values.length; k++) {
                long part = ways * values[k];
                sum = (index - k & 1) == 1 ? sum - part : sum + part;
                ways = Whole.part(ways * (index - k), k + 1);
            }
            return (int) sum;
        }

        /** The factorials rise, so that the last one has the greatest valuation. */
        int greatestLoss(int extent, int prime) {
            int loss = 0;
            for (int k = 2; k < extent && k < MOST; k++) {
                loss = loss + Whole.factorCount(k, prime);
            }
            return loss;
        }
    }
}
