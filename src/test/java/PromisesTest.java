/** Each promise by hand: ordinary calls, the edges that the document names, and wrong ones. */
final class PromisesTest {
    private static final String ARGUMENT = "IllegalArgumentException";
    private static final String STATE = "IllegalStateException";
    private static final String INDEX = "IndexOutOfBoundsException";
    private static final String ARITHMETIC = "ArithmeticException";
    private static final String NOT_DONE = "UnsupportedOperationException";
    private static final String NONE = "NoSuchElementException";

    public static void main(String[] args) {
        aNewObject();
        setPrime();
        reach();
        give();
        addAndSubtract();
        multiply();
        divide();
        root();
        rootNearTwo();
        unity();
        digits();
        refine();
        refineOnce();
        refineWithOldRowsAndPolynomials();
        likeAndAgree();
        fractions();
        distance();
        begin();
        term();
        polygon();
        residue();
        lift();
        rootsModulo();
        symbol();
        symbolsOfConics();
        obstacle();
        matrix();
        shape();
        row();
        at();
        atNearTwo();
        atOfNothing();
        figures();
        isSound();
        full();
        Check.end();
    }

    private static Henselhall near(int prime) {
        Henselhall x = new Henselhall();
        Check.due("setPrime(" + prime + ")", () -> x.setPrime(prime), 5);
        return x;
    }

    private static void known(String what, Henselhall x, int number, int valuation, int precision, int... digits) {
        Check.due(what + ": valuation", () -> x.valuation(number), valuation);
        Check.due(what + ": precision", () -> x.precision(number), precision);
        for (int k = 0; k < digits.length; k++) {
            int exponent = valuation + k;
            Check.due(what + ": digit " + exponent, () -> x.digit(number, exponent), digits[k]);
        }
        Check.due(what + ": digit beyond", () -> x.digit(number, precision), NONE);
    }

    private static void aNewObject() {
        Henselhall x = new Henselhall();
        Check.due("1: reach", x::reach, 12);
        Check.due("1: no numbers", () -> x.valuation(0), INDEX);
        Check.due("1: no polynomials", () -> x.sides(0), INDEX);
        Check.due("1: matrix", x::determinant, 0);
        Check.due("1: matrix", () -> x.setEntry(0, 1, 1), INDEX);
        Check.due("1: matrix", () -> x.setEntry(0, 0, 3), 0);
        Check.due("1: row", () -> x.difference(0), NONE);
        Check.due("1: sound", x::isSound, true);
        Check.due("1: share", x::nothingShare, ARITHMETIC);
        Check.due("1: digits", x::meanDigits, ARITHMETIC);
        Check.due("1: size", () -> x.setSize(1), 1);
        Check.due("1: prime", () -> x.setPrime(7), 5);
    }

    private static void setPrime() {
        Henselhall x = new Henselhall();
        for (int wrong : new int[] {Integer.MIN_VALUE, -7, 0, 1, 4, 9, 49, 91, 98, 101, Integer.MAX_VALUE}) {
            Check.due("2: " + wrong, () -> x.setPrime(wrong), ARGUMENT);
        }
        Check.due("2", () -> x.setPrime(2), 5);
        Check.due("2", () -> x.setPrime(97), 2);
        Check.due("2", () -> x.setPrime(97), 97);
        Check.due("2", () -> x.begin(97), 0);
        Check.due("2", () -> x.setPrime(3), 97);
        x.give(1, 1, 1);
        Check.due("2: with numbers", () -> x.setPrime(3), NOT_DONE);
        Check.due("2: with numbers", () -> x.setPrime(7), NOT_DONE);
        Check.due("2: the first one of both", () -> x.setPrime(8), ARGUMENT);
        Check.due("2: nothing changed", x::reach, 18);
    }

    private static void reach() {
        int[][] due = {{2, 29}, {3, 18}, {7, 10}, {11, 8}, {31, 6}, {61, 5}, {67, 4}, {97, 4}};
        for (int[] one : due) {
            Check.due("3: near " + one[0], near(one[0])::reach, one[1]);
        }
    }

    private static void give() {
        Henselhall x = new Henselhall();
        Check.due("4: -1", () -> x.give(-1, 1, 3), 0);
        known("4: -1", x, 0, 0, 3, 4, 4, 4);
        Check.due("4: 1/3", () -> x.give(1, 3, 4), 1);
        known("4: 1/3", x, 1, 0, 4, 2, 3, 1, 3);
        Check.due("4: 7/250", () -> x.give(7, 250, 0), 2);
        known("4: 7/250", x, 2, -3, 0, 1, 3, 2);
        Check.due("4: 25 up to 2", () -> x.give(25, 1, 2), 3);
        known("4: 25 up to 2", x, 3, 2, 2);
        Check.due("4: 25 up to 3", () -> x.give(25, 1, 3), 4);
        known("4: 25 up to 3", x, 4, 2, 3, 1);
        Check.due("4: 0", () -> x.give(0, 1000000, -20), 5);
        known("4: 0", x, 5, -20, -20);
        Check.due("4: 6/10", () -> x.give(6, 10, 20), 6);
        known("4: the reach", x, 6, -1, 11, 3, 0, 0);
        Check.due("4: greatest", () -> x.give(1000000, 1000000, 20), 7);
        known("4: greatest", x, 7, 0, 12, 1, 0);
        Check.due("4: least", () -> x.give(-1000000, 1, 20), 8);
        known("4: least", x, 8, 6, 18, 1);
        Check.due("4", () -> x.give(1000001, 1, 0), ARGUMENT);
        Check.due("4", () -> x.give(-1000001, 1, 0), ARGUMENT);
        Check.due("4", () -> x.give(1, 0, 0), ARGUMENT);
        Check.due("4", () -> x.give(1, -1, 0), ARGUMENT);
        Check.due("4", () -> x.give(1, 1000001, 0), ARGUMENT);
        Check.due("4", () -> x.give(1, 1, 21), ARGUMENT);
        Check.due("4", () -> x.give(1, 1, -21), ARGUMENT);
        Check.due("4: nothing changed", () -> x.give(1, 1, 1), 9);
    }

    private static void addAndSubtract() {
        Henselhall x = new Henselhall();
        x.give(13, 1, 3);
        x.give(12, 1, 2);
        Check.due("5", () -> x.add(0, 1), 2);
        known("5: 25 up to 2", x, 2, 2, 2);
        Check.due("6", () -> x.subtract(0, 1), 3);
        known("6: 1 up to 2", x, 3, 0, 2, 1, 0);
        Check.due("6", () -> x.subtract(1, 0), 4);
        known("6: -1 up to 2", x, 4, 0, 2, 4, 4);
        Check.due("6: itself", () -> x.subtract(0, 0), 5);
        known("6: itself", x, 5, 3, 3);
        x.give(1, 125, 9);
        Check.due("5: low digits", () -> x.add(0, 6), 7);
        known("5: low digits", x, 7, -3, 3, 1, 0, 0, 3, 2, 0);
        Check.due("5: itself", () -> x.add(0, 0), 8);
        known("5: itself", x, 8, 0, 3, 1, 0, 1);
        for (int wrong : new int[] {-1, 9, Integer.MAX_VALUE, Integer.MIN_VALUE}) {
            Check.due("5: no number", () -> x.add(wrong, 0), INDEX);
            Check.due("5: no number", () -> x.add(0, wrong), INDEX);
            Check.due("6: no number", () -> x.subtract(wrong, 0), INDEX);
            Check.due("6: no number", () -> x.subtract(0, wrong), INDEX);
        }
    }

    private static void multiply() {
        Henselhall x = new Henselhall();
        x.give(10, 1, 3);
        x.give(3, 25, 1);
        Check.due("7", () -> x.multiply(0, 1), 2);
        known("7: 30/25 up to 1", x, 2, -1, 1, 1, 1);
        x.give(0, 1, 4);
        Check.due("7: nothing", () -> x.multiply(3, 1), 4);
        known("7: nothing", x, 4, 2, 2);
        Check.due("7: nothing twice", () -> x.multiply(3, 3), 5);
        known("7: nothing twice", x, 5, 8, 8);
        Check.due("7: no number", () -> x.multiply(0, 6), INDEX);
        Check.due("7: no number", () -> x.multiply(-1, 0), INDEX);
        farExponents();
    }

    private static void farExponents() {
        Henselhall x = near(2);
        x.give(1, 1 << 19, -3);
        x.give(1, 1 << 19, -8);
        Check.due("7: -38", () -> x.multiply(0, 0), 2);
        Check.due("7: -57", () -> x.multiply(2, 0), 3);
        known("7: -57", x, 3, -57, -41, 1, 0);
        x.give(1, 8, 0);
        Check.due("7: -60", () -> x.multiply(3, 4), 5);
        Check.due("7: -60", () -> x.valuation(5), -60);
        Check.due("7: -61", () -> x.multiply(5, 6), INDEX);
        x.give(1, 2, 3);
        Check.due("7: -61", () -> x.multiply(6, 5), ARITHMETIC);
        x.give(0, 1, -1);
        Check.due("7: nothing up to -61", () -> x.multiply(5, 7), ARITHMETIC);
        Check.due("7: nothing changed", () -> x.give(1 << 19, 1, 20), 8);
        Check.due("7: 38", () -> x.multiply(8, 8), 9);
        Check.due("8: 57", () -> x.divide(9, 0), 10);
        known("8: 57", x, 10, 57, 58, 1);
        Check.due("7: 76", () -> x.multiply(10, 8), 11);
        known("7: nothing up to 60", x, 11, 60, 60);
        Check.due("8: -65", () -> x.divide(0, 10), ARITHMETIC);
        x.give(8, 1, 20);
        Check.due("8: -60", () -> x.divide(3, 12), 13);
        Check.due("8: -60", () -> x.valuation(13), -60);
        x.give(16, 1, 20);
        Check.due("8: -61", () -> x.divide(3, 14), ARITHMETIC);
        x.give(0, 1, -20);
        Check.due("8: nothing up to -77", () -> x.divide(15, 10), ARITHMETIC);
        Check.due("8: 60 at most", () -> x.divide(10, 3), 16);
        known("8: 60 at most", x, 16, 60, 60);
        Check.due("8: a part of 60", () -> x.divide(9, 0), 17);
        x.give(1, 1, 20);
        x.give(1, 4, 20);
        Check.due("8: digits up to 60", () -> x.divide(10, 19), 20);
        known("8: 59", x, 20, 59, 60, 1);
    }

    private static void divide() {
        Henselhall x = new Henselhall();
        x.give(50, 1, 5);
        x.give(15, 1, 3);
        Check.due("8", () -> x.divide(0, 1), 2);
        known("8: 10/3", x, 2, 1, 3, 4, 1);
        x.give(0, 1, 2);
        Check.due("8: nothing", () -> x.divide(3, 1), 4);
        known("8: nothing", x, 4, 1, 1);
        Check.due("8: by nothing", () -> x.divide(0, 3), ARITHMETIC);
        Check.due("8: by nothing", () -> x.divide(3, 3), ARITHMETIC);
        Check.due("8: no number", () -> x.divide(0, 5), INDEX);
        Check.due("8: no number", () -> x.divide(-1, 3), INDEX);
        Check.due("8: itself", () -> x.divide(1, 1), 5);
        known("8: itself", x, 5, 0, 2, 1, 0);
    }

    private static void root() {
        Henselhall x = new Henselhall();
        x.give(-1, 1, 4);
        Check.due("9", () -> x.root(0), 1);
        known("9: of -1", x, 1, 0, 4, 2, 1, 2, 1);
        x.give(4, 25, 1);
        Check.due("9", () -> x.root(2), 3);
        known("9: of 4/25", x, 3, -1, 2, 2, 0, 0);
        x.give(9, 1, 3);
        Check.due("9", () -> x.root(4), 5);
        known("9: of 9 it is -3", x, 5, 0, 3, 2, 4, 4);
        int[] none = {2, 3, 5, 125, 50, 0};
        for (int k = 0; k < none.length; k++) {
            int number = x.give(none[k], 1, 4);
            Check.due("9: none of " + none[k], () -> x.root(number), NOT_DONE);
        }
        x.give(25, 1, 2);
        Check.due("9: nothing up to 2", () -> x.root(12), NOT_DONE);
        Check.due("9: no number", () -> x.root(13), INDEX);
        Check.due("9: no number", () -> x.root(-1), INDEX);
    }

    private static void rootNearTwo() {
        Henselhall x = near(2);
        x.give(17, 1, 8);
        Check.due("9 near 2", () -> x.root(0), 1);
        known("9 near 2: of 17", x, 1, 0, 7, 1, 0, 0, 1, 0, 1, 1);
        x.give(9, 4, 1);
        Check.due("9 near 2: 3 digits", () -> x.root(2), 3);
        known("9 near 2: 3 digits", x, 3, -1, 1, 1, 0);
        x.give(9, 4, 0);
        Check.due("9 near 2: 2 digits", () -> x.root(4), NOT_DONE);
        x.give(3, 1, 8);
        x.give(5, 1, 8);
        x.give(7, 1, 8);
        x.give(2, 1, 8);
        for (int k = 5; k < 9; k++) {
            int number = k;
            Check.due("9 near 2: none", () -> x.root(number), NOT_DONE);
        }
        x.give(-7, 1, 20);
        Check.due("9 near 2: of -7", () -> x.root(9), 10);
        Check.due("9 near 2: of -7", () -> x.digit(10, 1), 0);
        Check.due("9 near 2: square", () -> x.multiply(10, 10), 11);
        Check.due("9 near 2: square", () -> x.agree(11, 9), true);
        Check.due("9 near 2: sound", x::isSound, true);
    }

    private static void unity() {
        Henselhall x = new Henselhall();
        x.give(2, 1, 4);
        Check.due("10", () -> x.unity(0), 1);
        known("10: of 2", x, 1, 0, 4, 2, 1, 2, 1);
        x.give(4, 1, 3);
        Check.due("10", () -> x.unity(2), 3);
        known("10: of 4", x, 3, 0, 3, 4, 4, 4);
        x.give(10, 1, 3);
        x.give(1, 5, 3);
        x.give(1, 1, 0);
        Check.due("10: valuation 1", () -> x.unity(4), NOT_DONE);
        Check.due("10: valuation -1", () -> x.unity(5), NOT_DONE);
        Check.due("10: nothing up to 0", () -> x.unity(6), NOT_DONE);
        Check.due("10: no number", () -> x.unity(7), INDEX);
        Henselhall y = near(2);
        y.give(-1, 1, 20);
        Check.due("10 near 2", () -> y.unity(0), 1);
        known("10 near 2", y, 1, 0, 20, 1, 0, 0);
        Henselhall z = near(97);
        z.give(5, 1, 20);
        Check.due("10 near 97", () -> z.unity(0), 1);
        Check.due("10 near 97", () -> z.precision(1), 4);
        Check.due("10 near 97", () -> z.digit(1, 0), 5);
    }

    private static void digits() {
        Henselhall x = new Henselhall();
        x.give(50, 1, 4);
        Check.due("11", () -> x.precision(0), 4);
        Check.due("12", () -> x.valuation(0), 2);
        Check.due("13: below the valuation", () -> x.digit(0, -60), 0);
        Check.due("13: below the valuation", () -> x.digit(0, 1), 0);
        Check.due("13", () -> x.digit(0, 2), 2);
        Check.due("13", () -> x.digit(0, 3), 0);
        Check.due("13", () -> x.digit(0, 4), NONE);
        Check.due("13", () -> x.digit(0, Integer.MAX_VALUE), NONE);
        for (int wrong : new int[] {-1, 1, 40}) {
            Check.due("11: no number", () -> x.precision(wrong), INDEX);
            Check.due("12: no number", () -> x.valuation(wrong), INDEX);
            Check.due("13: no number", () -> x.digit(wrong, 9), INDEX);
        }
        x.give(50, 1, 2);
        Check.due("12: nothing", () -> x.valuation(1), 2);
        Check.due("13: nothing", () -> x.digit(1, 1), 0);
    }

    private static void refine() {
        Henselhall x = new Henselhall();
        x.give(1, 3, 2);
        Check.due("14", () -> x.refine(0, 2), 4);
        known("14: 1/3", x, 0, 0, 4, 2, 3, 1, 3);
        Check.due("14: the reach", () -> x.refine(0, 20), 12);
        Check.due("14", () -> x.refine(0, 0), ARGUMENT);
        Check.due("14", () -> x.refine(0, 21), ARGUMENT);
        Check.due("14", () -> x.refine(0, -1), ARGUMENT);
        Check.due("14", () -> x.refine(1, 1), INDEX);
        Check.due("14: the first one of both", () -> x.refine(-1, 0), INDEX);
        x.give(0, 1, 20);
        Check.due("14", () -> x.refine(1, 20), 40);
        Check.due("14", () -> x.refine(1, 19), 59);
        Check.due("14: 60 at most", () -> x.refine(1, 20), 60);
        x.give(25, 1, 1);
        Check.due("14: from nothing", () -> x.refine(2, 1), 2);
        Check.due("14: from nothing", () -> x.valuation(2), 2);
        Check.due("14: to something", () -> x.refine(2, 2), 4);
        known("14: to something", x, 2, 2, 4, 1, 0);
        x.begin(-2);
        x.term(0, 1, 1);
        x.lift(0, 2, 3);
        Check.due("14: on no fraction", () -> x.refine(3, 1), NOT_DONE);
        Check.due("14: on no fraction, over another", () -> x.multiply(3, 3), 4);
        Check.due("14: on no fraction, over another", () -> x.refine(4, 1), NOT_DONE);
        Check.due("14: the first one of both", () -> x.refine(4, 0), ARGUMENT);
        Check.due("14: on one, over another", () -> x.add(4, 2), 5);
        Check.due("14: on one, over another", () -> x.refine(5, 1), 3);
        Check.due("14: what it hangs on", () -> x.precision(2), 5);
    }

    private static void refineOnce() {
        Henselhall x = new Henselhall();
        x.give(7, 1, 1);
        x.give(3, 1, 2);
        x.give(4, 1, 1);
        x.add(0, 1);
        x.multiply(3, 0);
        x.root(2);
        Check.due("14: once", () -> x.refine(4, 2), 3);
        Check.due("14: once", () -> x.precision(0), 3);
        Check.due("14: each", () -> x.precision(1), 4);
        Check.due("14: not the others", () -> x.precision(2), 1);
        Check.due("14: what is between", () -> x.precision(3), 3);
        Check.due("14: what hangs on a marked one", () -> x.refine(0, 1), 4);
        Check.due("14: found anew", () -> x.precision(3), 4);
        Check.due("14: root", () -> x.refine(5, 3), 4);
        known("14: root of 4", x, 5, 0, 4, 2, 0, 0, 0);
        Check.due("14: sound", x::isSound, true);
    }

    private static void refineWithOldRowsAndPolynomials() {
        Henselhall x = new Henselhall();
        x.give(7, 1, 2);
        x.value(1);
        x.value(3);
        x.at(0);
        x.begin(-4);
        x.term(0, 1, 1);
        x.lift(0, 4, 2);
        x.value(9);
        x.value(0);
        x.term(0, 2, 1);
        Check.due("14: row as it was", () -> x.refine(1, 2), 4);
        known("14: 15 up to 4", x, 1, 1, 4, 3, 0, 0);
        known("14: lifted as it was", x, 2, 0, 2, 4, 0);
        Check.due("40: lifted as it was", x::isSound, true);
    }

    private static void likeAndAgree() {
        Henselhall x = new Henselhall();
        x.give(1, 1, 3);
        x.give(126, 1, 3);
        x.give(1, 1, 4);
        x.give(0, 1, 3);
        x.give(250, 1, 3);
        x.give(1, 5, 3);
        Check.due("15", () -> x.like(1), 0);
        Check.due("15: itself", () -> x.like(0), 0);
        Check.due("15: another precision", () -> x.like(2), 2);
        Check.due("15: nothing", () -> x.like(4), 3);
        Check.due("15: another valuation", () -> x.like(5), 5);
        Check.due("15: no number", () -> x.like(6), INDEX);
        Check.due("15: no number", () -> x.like(-1), INDEX);
        Check.due("16", () -> x.agree(1, 2), true);
        Check.due("16", () -> x.agree(2, 1), true);
        Check.due("16: itself", () -> x.agree(5, 5), true);
        Check.due("16: not", () -> x.agree(0, 3), false);
        Check.due("16: not", () -> x.agree(0, 5), false);
        Check.due("16: no number", () -> x.agree(6, 0), INDEX);
        Check.due("16: no number", () -> x.agree(0, -1), INDEX);
        x.give(1, 1, -1);
        Check.due("16: as far as both are known", () -> x.agree(6, 0), true);
        Check.due("16: as far as both are known", () -> x.agree(6, 5), true);
        x.give(2, 25, -1);
        Check.due("16: a low digit", () -> x.agree(6, 7), false);
    }

    private static void fractions() {
        Henselhall x = new Henselhall();
        x.give(-22, 7, 6);
        Check.due("17", () -> x.numerator(0), -22);
        Check.due("18", () -> x.denominator(0), 7);
        x.give(10, 6, 20);
        Check.due("17: lowest terms", () -> x.numerator(1), 5);
        Check.due("18: lowest terms", () -> x.denominator(1), 3);
        x.give(0, 9, 1);
        Check.due("17: nothing", () -> x.numerator(2), 0);
        Check.due("18: nothing", () -> x.denominator(2), 1);
        x.give(1, 5, 9);
        Check.due("17: valuation", () -> x.numerator(3), NOT_DONE);
        Check.due("18: valuation", () -> x.denominator(3), NOT_DONE);
        x.give(1, 1, 0);
        Check.due("17: precision", () -> x.numerator(4), NOT_DONE);
        Check.due("18: precision", () -> x.denominator(4), NOT_DONE);
        x.give(9999, 10000, 10);
        Check.due("17: none", () -> x.numerator(5), NOT_DONE);
        x.give(3, 1, 1);
        Check.due("17: 3 is none", () -> x.numerator(6), NONE);
        Check.due("18: 3 is none", () -> x.denominator(6), NONE);
        x.give(4, 1, 1);
        Check.due("17: 4 is -1", () -> x.numerator(7), -1);
        Check.due("17: no number", () -> x.numerator(8), INDEX);
        Check.due("18: no number", () -> x.denominator(-1), INDEX);
        Henselhall y = near(2);
        y.give(0, 1, 1);
        Check.due("18: none, not even 0", () -> y.denominator(0), NONE);
        y.give(0, 1, 2);
        Check.due("18: 0 / 1", () -> y.denominator(1), 1);
        Henselhall z = near(97);
        z.give(97, 2, 20);
        Check.due("17: the first reach digits", () -> z.precision(0), 5);
        Check.due("17: the first reach digits", () -> z.numerator(0), 97);
        Check.due("18: the first reach digits", () -> z.denominator(0), 2);
        z.give(97, 1, 20);
        z.multiply(1, 1);
        z.multiply(2, 2);
        Check.due("17: 0 in the first reach digits", () -> z.numerator(3), 0);
    }

    private static void distance() {
        Henselhall x = new Henselhall();
        x.give(7, 1, 4);
        x.give(32, 1, 3);
        Check.due("19", () -> x.distance(0, 4, 1, 3), 3);
        Check.due("19", () -> x.distance(1, 3, 0, 4), 3);
        Check.due("19: one over the other", () -> x.distance(0, 2, 1, 3), 1);
        Check.due("19: the same", () -> x.distance(0, 2, 1, 2), 0);
        Check.due("19: of one", () -> x.distance(0, 4, 0, -60), 64);
        Check.due("19: beyond", () -> x.distance(0, 5, 1, 3), ARGUMENT);
        Check.due("19: beyond", () -> x.distance(0, 4, 1, 4), ARGUMENT);
        Check.due("19: beyond", () -> x.distance(0, -61, 1, 3), ARGUMENT);
        Check.due("19: beyond", () -> x.distance(0, 4, 1, -61), ARGUMENT);
        Check.due("19: no number", () -> x.distance(2, 5, 1, 3), INDEX);
        Check.due("19: no number", () -> x.distance(0, 5, -1, 3), INDEX);
        x.give(1, 125, 2);
        Check.due("19: far", () -> x.distance(0, 1, 2, 2), 9);
        x.give(11, 1, 2);
        Check.due("19: two", () -> x.distance(0, 1, 3, 1), 2);
    }

    private static void begin() {
        Henselhall x = new Henselhall();
        Check.due("20", () -> x.begin(0), ARGUMENT);
        Check.due("20", () -> x.begin(10001), ARGUMENT);
        Check.due("20", () -> x.begin(-10001), ARGUMENT);
        for (int k = 0; k < 8; k++) {
            int number = k;
            Check.due("20", () -> x.begin(number % 2 == 0 ? 10000 : -10000), number);
        }
        Check.due("20: 8", () -> x.begin(1), STATE);
        Check.due("20: the first one of both", () -> x.begin(0), ARGUMENT);
    }

    private static void term() {
        Henselhall x = new Henselhall();
        x.begin(1);
        Check.due("21", () -> x.term(0, 2, 10000), 2);
        Check.due("21: not greater", () -> x.term(0, 2, 1), ARGUMENT);
        Check.due("21: not greater", () -> x.term(0, 1, 1), ARGUMENT);
        Check.due("21: not greater", () -> x.term(0, -1, 1), ARGUMENT);
        Check.due("21: 0", () -> x.term(0, 3, 0), ARGUMENT);
        Check.due("21: range", () -> x.term(0, 3, 10001), ARGUMENT);
        Check.due("21: range", () -> x.term(0, 3, -10001), ARGUMENT);
        Check.due("21: range", () -> x.term(0, 7, 1), ARGUMENT);
        Check.due("21: no polynomial", () -> x.term(1, 7, 1), INDEX);
        Check.due("21: no polynomial", () -> x.term(-1, 3, 1), INDEX);
        Check.due("21", () -> x.term(0, 6, -10000), 3);
        Check.due("21: not greater", () -> x.term(0, 6, 1), ARGUMENT);
    }

    private static void polygon() {
        Henselhall x = new Henselhall();
        x.begin(250);
        Check.due("22: a point", () -> x.sides(0), 0);
        Check.due("23: a point", () -> x.length(0, 0), INDEX);
        Check.due("24: a point", () -> x.slope(0, 0), INDEX);
        x.term(0, 1, 75);
        Check.due("22", () -> x.sides(0), 1);
        Check.due("24: -1", () -> x.slope(0, 0), -99);
        x.term(0, 2, 25);
        x.term(0, 3, 1);
        x.term(0, 5, 5);
        x.term(0, 6, 125);
        Check.due("22", () -> x.sides(0), 3);
        Check.due("23: a point below the line", () -> x.length(0, 0), 3);
        Check.due("24: a whole slope", () -> x.slope(0, 0), -99);
        Check.due("23", () -> x.length(0, 1), 2);
        Check.due("24: 1/2", () -> x.slope(0, 1), 102);
        Check.due("23", () -> x.length(0, 2), 1);
        Check.due("24: 2", () -> x.slope(0, 2), 201);
        Check.due("23: no side", () -> x.length(0, 3), INDEX);
        Check.due("23: no side", () -> x.length(0, -1), INDEX);
        Check.due("24: no side", () -> x.slope(0, 3), INDEX);
        Check.due("24: no side", () -> x.slope(0, -1), INDEX);
        for (int wrong : new int[] {-1, 1, 8}) {
            Check.due("22: no polynomial", () -> x.sides(wrong), INDEX);
            Check.due("23: no polynomial", () -> x.length(wrong, 0), INDEX);
            Check.due("24: no polynomial", () -> x.slope(wrong, 0), INDEX);
        }
        x.begin(25);
        x.term(1, 6, 10000);
        Check.due("24: lowest terms", () -> x.slope(1, 0), 103);
        x.begin(-3);
        x.term(2, 4, 2);
        Check.due("24: 0", () -> x.slope(2, 0), 1);
        Check.due("23: over powers without a term", () -> x.length(2, 0), 4);
        x.begin(125);
        x.term(3, 2, 1);
        Check.due("24: -3/2", () -> x.slope(3, 0), -298);
        x.setPrime(2);
        Check.due("24: near another prime", () -> x.slope(1, 0), 203);
    }

    private static void residue() {
        Henselhall x = new Henselhall();
        x.begin(2);
        x.term(0, 1, -3);
        x.term(0, 2, 1);
        Check.due("25", () -> x.residue(0, 0), '-');
        Check.due("25", () -> x.residue(0, 1), 's');
        Check.due("25", () -> x.residue(0, 2), 's');
        Check.due("25", () -> x.residue(0, 5), ARGUMENT);
        Check.due("25", () -> x.residue(0, -1), ARGUMENT);
        Check.due("25", () -> x.residue(1, 5), INDEX);
        x.begin(4);
        x.term(1, 1, -4);
        x.term(1, 2, 1);
        Check.due("25", () -> x.residue(1, 2), 'm');
        x.begin(10);
        Check.due("25: a constant", () -> x.residue(2, 4), 'm');
        x.begin(-1);
        x.term(3, 5, 1);
        Check.due("25: five times", () -> x.residue(3, 1), 'm');
    }

    private static void lift() {
        Henselhall x = new Henselhall();
        x.begin(1);
        x.term(0, 2, 1);
        Check.due("26", () -> x.lift(0, 2, 4), 0);
        known("26: of x x + 1", x, 0, 0, 4, 2, 1, 2, 1);
        Check.due("26", () -> x.lift(0, 3, 12), 1);
        Check.due("26: both", () -> x.add(0, 1), 2);
        Check.due("26: both", () -> x.valuation(2), 4);
        Check.due("26: no root", () -> x.lift(0, 1, 3), NOT_DONE);
        Check.due("26: no residue", () -> x.lift(0, 5, 3), ARGUMENT);
        Check.due("26: no residue", () -> x.lift(0, -1, 3), ARGUMENT);
        Check.due("26: precision", () -> x.lift(0, 2, 0), ARGUMENT);
        Check.due("26: precision", () -> x.lift(0, 2, 13), ARGUMENT);
        Check.due("26: the first one of both", () -> x.lift(0, 1, 13), ARGUMENT);
        Check.due("26: the first one of both", () -> x.lift(1, 2, 13), INDEX);
        x.begin(-25);
        x.term(1, 1, 1);
        Check.due("26: 25", () -> x.lift(1, 0, 3), 3);
        known("26: 25", x, 3, 2, 3, 1);
        Check.due("26: 25 up to 1", () -> x.lift(1, 0, 1), 4);
        known("26: 25 up to 1", x, 4, 1, 1);
        x.begin(4);
        x.term(2, 1, -4);
        x.term(2, 2, 1);
        Check.due("26: not simple", () -> x.lift(2, 2, 3), NOT_DONE);
        Check.due("40: lifted", x::isSound, true);
    }

    private static void rootsModulo() {
        Henselhall x = new Henselhall();
        x.begin(-1);
        x.term(0, 4, 1);
        Check.due("27", () -> x.rootsModulo(0, 1), 4);
        Check.due("27: the greatest power", () -> x.rootsModulo(0, 5), 4);
        Check.due("27: beyond", () -> x.rootsModulo(0, 6), ARGUMENT);
        Check.due("27: beyond", () -> x.rootsModulo(0, 0), ARGUMENT);
        Check.due("27: beyond", () -> x.rootsModulo(0, Integer.MAX_VALUE), ARGUMENT);
        Check.due("27: beyond", () -> x.rootsModulo(0, Integer.MIN_VALUE), ARGUMENT);
        Check.due("27: no polynomial", () -> x.rootsModulo(1, 0), INDEX);
        x.begin(25);
        x.term(1, 2, 1);
        Check.due("27: many", () -> x.rootsModulo(1, 2), 5);
        Check.due("27: many", () -> x.rootsModulo(1, 3), 10);
        x.begin(25);
        Check.due("27: all", () -> x.rootsModulo(2, 2), 25);
        Check.due("27: none", () -> x.rootsModulo(2, 3), 0);
        x.setPrime(2);
        Check.due("27: near 2", () -> x.rootsModulo(0, 13), 8);
        Check.due("27: near 2", () -> x.rootsModulo(0, 14), ARGUMENT);
        x.setPrime(97);
        Check.due("27: near 97", () -> x.rootsModulo(0, 2), 4);
        Check.due("27: near 97", () -> x.rootsModulo(0, 3), ARGUMENT);
    }

    private static void symbol() {
        Henselhall x = new Henselhall();
        Check.due("28: at 0", () -> x.symbol(-1, -1, 0), -1);
        Check.due("28: at 0", () -> x.symbol(-1, 1, 0), 1);
        Check.due("28: at 0", () -> x.symbol(3, 3, 0), 1);
        Check.due("28: at 2", () -> x.symbol(-1, -1, 2), -1);
        Check.due("28: at 2", () -> x.symbol(2, 3, 2), -1);
        Check.due("28: at 2", () -> x.symbol(3, 2, 2), -1);
        Check.due("28: at 2", () -> x.symbol(2, -1, 2), 1);
        Check.due("28: at 3", () -> x.symbol(3, 3, 3), -1);
        Check.due("28: at 3", () -> x.symbol(3, -1, 3), -1);
        Check.due("28: at 3", () -> x.symbol(9, -1, 3), 1);
        Check.due("28: at 5", () -> x.symbol(5, 5, 5), 1);
        Check.due("28: at 5", () -> x.symbol(2, 5, 5), -1);
        Check.due("28: at 9973", () -> x.symbol(9973, 9973, 9973), 1);
        Check.due("28: at 9967", () -> x.symbol(9967, 9967, 9967), -1);
        Check.due("28: edge", () -> x.symbol(-10000, 10000, 7), 1);
        int[][] wrong = {{0, 1, 2}, {1, 0, 2}, {10001, 1, 2}, {-10001, 1, 2}, {1, 10001, 2}, {1, -10001, 2},
            {1, 1, -1}, {1, 1, 1}, {1, 1, 9}, {1, 1, 9999}, {1, 1, 10007}, {1, 1, Integer.MIN_VALUE}};
        for (int[] w : wrong) {
            Check.due("28: wrong", () -> x.symbol(w[0], w[1], w[2]), ARGUMENT);
        }
    }

    /** The symbol by what it means: a solution modulo a power that is great enough, not all divisible. */
    private static void symbolsOfConics() {
        int[][] places = {{2, 32}, {3, 27}, {5, 25}, {7, 49}};
        for (int[] place : places) {
            int p = place[0];
            Henselhall x = new Henselhall();
            for (int a = -7; a <= 7; a++) {
                for (int b = -7; b <= 7; b++) {
                    if (a % (p * p) != 0 && b % (p * p) != 0) {
                        int one = a;
                        int two = b;
                        Check.due("28: " + a + ", " + b + " at " + p, () -> x.symbol(one, two, p),
                            solves(a, b, p, place[1]) ? 1 : -1);
                    }
                }
            }
        }
    }

    private static boolean solves(int a, int b, int p, int m) {
        for (int x = 0; x < m; x++) {
            for (int y = 0; y < m; y++) {
                for (int z = 0; z < m; z++) {
                    if ((x % p != 0 || y % p != 0 || z % p != 0) && (a * x * x + b * y * y - z * z) % m == 0) {
                        return true;
                    }
                }
            }
        }
        return false;
    }

    private static void obstacle() {
        Henselhall x = new Henselhall();
        Check.due("29: at 0", () -> x.obstacle(-3, -5), 0);
        Check.due("29: at 2", () -> x.obstacle(3, 3), 2);
        Check.due("29: at 3", () -> x.obstacle(-3, 5), 3);
        Check.due("29: at 5", () -> x.obstacle(5, 13), 5);
        Check.due("29: none", () -> x.obstacle(1, 7), NONE);
        Check.due("29: none", () -> x.obstacle(2, -1), NONE);
        Check.due("29", () -> x.obstacle(0, 7), ARGUMENT);
        Check.due("29", () -> x.obstacle(7, 0), ARGUMENT);
        Check.due("29", () -> x.obstacle(10001, 7), ARGUMENT);
        Check.due("29", () -> x.obstacle(7, -10001), ARGUMENT);
        int odd = 0;
        for (int place = 3; place <= 10000; place += 2) {
            int at = place;
            odd += Check.told(() -> new Henselhall().symbol(9973, 9967, at)).equals("-1") ? 1 : 0;
        }
        int minus = odd + (x.symbol(9973, 9967, 2) < 0 ? 1 : 0);
        Check.due("29: an even number of places", () -> minus % 2, 0);
    }

    private static void matrix() {
        Henselhall x = new Henselhall();
        Check.due("30", () -> x.setSize(0), ARGUMENT);
        Check.due("30", () -> x.setSize(5), ARGUMENT);
        Check.due("30", () -> x.setSize(3), 1);
        Check.due("31", () -> x.setEntry(0, 0, 999), 0);
        Check.due("31", () -> x.setEntry(0, 0, -999), 999);
        Check.due("31", () -> x.setEntry(0, 0, 2), -999);
        Check.due("31", () -> x.setEntry(0, 0, 1000), ARGUMENT);
        Check.due("31", () -> x.setEntry(0, 0, -1000), ARGUMENT);
        Check.due("31", () -> x.setEntry(3, 0, 1000), INDEX);
        Check.due("31", () -> x.setEntry(0, 3, 1), INDEX);
        Check.due("31", () -> x.setEntry(-1, 0, 1), INDEX);
        Check.due("31", () -> x.setEntry(0, -1, 1), INDEX);
        int[][] rows = {{2, 0, 1}, {1, 3, 2}, {1, 1, 4}};
        for (int k = 0; k < 9; k++) {
            x.setEntry(k / 3, k % 3, rows[k / 3][k % 3]);
        }
        Check.due("32", x::determinant, 18);
        Check.due("33", x::rank, 3);
        x.setEntry(2, 0, 3);
        x.setEntry(2, 1, 3);
        x.setEntry(2, 2, 3);
        Check.due("32: rows that hang on one another", x::determinant, 0);
        Check.due("33: rows that hang on one another", x::rank, 2);
        Check.due("30", () -> x.setSize(4), 3);
        Check.due("30: cleared", x::rank, 0);
        for (int k = 0; k < 16; k++) {
            x.setEntry(k / 4, k % 4, k / 4 == k % 4 || k % 4 > k / 4 && (k & 1) == 0 ? 999 : -999);
        }
        Check.due("32: greatest", () -> x.determinant() % 996005996001L, 0);
        x.setSize(2);
        x.setEntry(0, 1, 999);
        x.setEntry(1, 0, 999);
        Check.due("32: turned", x::determinant, -998001);
        Check.due("30: the same size", () -> x.setSize(2), 2);
        Check.due("30: cleared", x::determinant, 0);
    }

    private static void shape() {
        Henselhall x = new Henselhall();
        Check.due("34: rank 0", () -> x.shape(0), NONE);
        x.setSize(3);
        int[][] rows = {{10, 4, 25}, {0, 5, 50}, {0, 0, 125}};
        for (int k = 0; k < 9; k++) {
            x.setEntry(k / 3, k % 3, rows[k / 3][k % 3]);
        }
        Check.due("34", () -> x.shape(0), 0);
        Check.due("34", () -> x.shape(1), 2);
        Check.due("34", () -> x.shape(2), 3);
        Check.due("34", () -> x.shape(3), NONE);
        Check.due("34", () -> x.shape(-1), NONE);
        Check.due("40: determinant", x::isSound, true);
        x.setEntry(2, 2, 0);
        Check.due("34: rank 2", () -> x.shape(2), NONE);
        Check.due("40: determinant 0", x::isSound, true);
        x.setPrime(2);
        Check.due("34: near 2", () -> x.shape(0), 0);
        Check.due("34: near 2", () -> x.shape(1), 0);
        x.setEntry(1, 1, 0);
        Check.due("34: near 2", () -> x.shape(1), 2);
    }

    private static void row() {
        Henselhall x = new Henselhall();
        Check.due("35", () -> x.value(10001), ARGUMENT);
        Check.due("35", () -> x.value(-10001), ARGUMENT);
        for (int k = 0; k < 12; k++) {
            int f = k % 2 == 0 ? 10000 : -10000;
            int count = k + 1;
            Check.due("36: not yet", () -> x.difference(count - 1), NONE);
            Check.due("35", () -> x.value(f), count);
        }
        Check.due("35: 12", () -> x.value(0), STATE);
        Check.due("35: the first one of both", () -> x.value(10001), ARGUMENT);
        Check.due("36", () -> x.difference(0), 10000);
        Check.due("36", () -> x.difference(1), -20000);
        Check.due("36: the last one", () -> x.difference(11), -20480000);
        Check.due("36", () -> x.difference(12), NONE);
        Check.due("36", () -> x.difference(-1), NONE);
    }

    private static void at() {
        Henselhall x = new Henselhall();
        x.give(1, 2, 4);
        Check.due("37: no row", () -> x.at(0), 1);
        known("37: no row", x, 1, 4, 4);
        x.value(0);
        x.value(1);
        x.value(4);
        Check.due("37: squares", () -> x.at(0), 2);
        x.give(1, 4, 4);
        Check.due("37: squares", () -> x.like(2), 2);
        Check.due("37: squares", () -> x.like(3), 2);
        for (int k = 3; k < 6; k++) {
            x.value(k * k);
        }
        Check.due("37: 5! takes a digit", () -> x.at(0), 4);
        Check.due("37: 5! takes a digit", () -> x.precision(4), 3);
        Check.due("37: 5! takes a digit", () -> x.agree(4, 3), true);
        x.give(3, 1, 1);
        Check.due("37: all digits are taken", () -> x.at(5), NOT_DONE);
        x.give(3, 1, 2);
        Check.due("37: one digit is left", () -> x.at(6), 7);
        known("37: one digit is left", x, 7, 0, 1, 4);
        x.give(1, 5, 4);
        Check.due("37: valuation", () -> x.at(8), NOT_DONE);
        x.give(1, 1, 0);
        Check.due("37: precision", () -> x.at(9), NOT_DONE);
        Check.due("37: no number", () -> x.at(10), INDEX);
        Check.due("37: no number", () -> x.at(-1), INDEX);
        x.give(0, 1, 20);
        Check.due("37: the reach if that is less", () -> x.at(10), 11);
        known("37: the reach if that is less", x, 11, 11, 11);
    }

    private static void atNearTwo() {
        Henselhall x = near(2);
        x.give(7, 1, 9);
        x.give(1, 1, 8);
        x.give(0, 1, 1);
        Check.due("37: a row without values", () -> x.at(2), 3);
        known("37: a row without values", x, 3, 1, 1);
        for (int k = 0; k < 12; k++) {
            x.value(k % 3);
        }
        Check.due("37 near 2: one digit is left", () -> x.at(0), 4);
        known("37 near 2: f(7)", x, 4, 0, 1, 1);
        Check.due("37 near 2: no digit is left", () -> x.at(1), NOT_DONE);
        Check.due("37 near 2: below 0", () -> x.at(2), NOT_DONE);
        Check.due("37 near 2: nothing is changed", () -> x.valuation(5), INDEX);
        x.refine(1, 1);
        Check.due("37 near 2: now one digit is left", () -> x.at(1), 5);
        known("37 near 2: f(1)", x, 5, 0, 1, 1);
        x.refine(1, 20);
        Check.due("37 near 2: more digits", () -> x.precision(5), 21);
        Check.due("37 near 2: more digits", x::isSound, true);
    }

    /** All differences are 0, but a 4! of the row takes three digits all the same. */
    private static void atOfNothing() {
        Henselhall x = near(2);
        for (int k = 0; k < 5; k++) {
            x.value(0);
        }
        for (int known = 1; known < 4; known++) {
            int number = known - 1;
            x.give(0, 1, known);
            Check.due("37: nothing up to " + known, () -> x.at(number), NOT_DONE);
        }
        x.give(0, 1, 4);
        Check.due("37: nothing up to 4", () -> x.at(3), 4);
        known("37: nothing up to 4", x, 4, 1, 1);
    }

    private static void figures() {
        Henselhall x = new Henselhall();
        x.give(0, 1, 3);
        Check.due("38: all", x::nothingShare, 1.0f);
        Check.due("39: none", x::meanDigits, 0.0);
        x.give(1, 1, 3);
        x.give(10, 1, 3);
        Check.due("38", x::nothingShare, 1.0f / 3.0f);
        Check.due("39", x::meanDigits, 5.0 / 3.0);
    }

    private static void isSound() {
        Henselhall x = near(2);
        x.give(17, 9, 5);
        x.root(0);
        x.unity(1);
        x.divide(1, 0);
        x.begin(6);
        x.term(0, 1, 1);
        x.lift(0, 0, 29);
        x.at(0);
        x.setSize(2);
        x.setEntry(0, 0, 8);
        x.setEntry(0, 1, 6);
        x.setEntry(1, 0, 4);
        Check.due("40", x::isSound, true);
        x.refine(3, 20);
        Check.due("40", x::isSound, true);
        x.setEntry(1, 0, 0);
        Check.due("40: determinant 0", x::isSound, true);
    }

    private static void full() {
        Henselhall x = new Henselhall();
        x.begin(1);
        x.term(0, 2, 1);
        for (int k = 0; k < 40; k++) {
            int number = k;
            Check.due("4", () -> x.give(1, 1, 2), number);
        }
        Check.due("4: 40", () -> x.give(1, 1, 2), STATE);
        Check.due("4: the first one of both", () -> x.give(1, 1, 21), ARGUMENT);
        Check.due("5: 40", () -> x.add(0, 39), STATE);
        Check.due("5: the first one of both", () -> x.add(0, 40), INDEX);
        Check.due("6: 40", () -> x.subtract(0, 39), STATE);
        Check.due("7: 40", () -> x.multiply(0, 39), STATE);
        Check.due("8: 40", () -> x.divide(0, 39), STATE);
        Check.due("9: 40", () -> x.root(0), STATE);
        Check.due("10: 40", () -> x.unity(0), STATE);
        Check.due("26: 40", () -> x.lift(0, 2, 3), STATE);
        Check.due("26: the first one of both", () -> x.lift(0, 1, 3), NOT_DONE);
        Check.due("37: 40", () -> x.at(0), STATE);
        for (int k = 0; k < 12; k++) {
            x.value(k);
        }
        Check.due("37: the first one of both", () -> x.at(0), NOT_DONE);
        Check.due("15: the last one", () -> x.like(39), 0);
        Check.due("14: the last one", () -> x.refine(39, 1), 3);
        Check.due("38: full", x::nothingShare, 0.0f);
        Check.due("40: full", x::isSound, true);
    }
}
