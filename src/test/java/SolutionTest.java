/** Promises 7 to 10: reached, bits, rest, signs; all that the terms say of facts. */
public final class SolutionTest {
    private static final int MIN = Integer.MIN_VALUE, MAX = Integer.MAX_VALUE;
    private static final int M = 1, Z = 2, P = 4;
    private static final int ALL = 7;

    public static void main(String[] args) {
        firstStateIsZeros();
        wrongPlaces();
        simpleInstructions();
        joinsOfNumbers();
        joinsOfBits();
        joinedFactsKeepTheirRest();
        signsOfSums();
        signsOfDifferences();
        signsOfProducts();
        signsOfQuotients();
        bitsOfSums();
        bitsOfProducts();
        bitsOfQuotients();
        divisionTakesZeroAway();
        ways();
        waysReduce();
        whatIsNotReached();
        loops();
        oneStateIsNoneWhenOneFactIs();
        Due.end();
    }

    private static void firstStateIsZeros() {
        FactFlow x = new FactFlow();
        x.add(12, 0, 0, 0);
        Due.is("reached", x.reached(0), true);
        for (int v = 0; v < 4; v++) {
            Due.fact(x, 0, v, 32, 0, Z);
        }
        // What a jump back brings is joined to it.
        x.put(0, 0, 1, 0, 4);
        x.add(9, 0, 0, 0);
        Due.fact(x, 0, 1, 2, 0, Z | P);
        Due.fact(x, 0, 0, 32, 0, Z);
        // Nothing of an earlier program's facts is left.
        x.put(1, 11, 0, 0, 0);
        Due.fact(x, 0, 1, 32, 0, Z);
    }

    private static void wrongPlaces() {
        FactFlow x = new FactFlow();
        x.add(0, 0, 0, 5);
        x.add(11, 0, 0, 0);
        x.add(12, 0, 0, 0);
        for (int i : new int[] {-1, 2, 3, 24, 25, MIN, MAX}) {
            Due.is("reached " + i, x.reached(i), false);
            for (int v = -1; v <= 4; v++) {
                Due.fact(x, i, v, FactFlow.BAD, 0, 0);
            }
        }
        for (int v : new int[] {-1, 4, MIN, MAX}) {
            Due.fact(x, 1, v, FactFlow.BAD, 0, 0);
        }
        Due.is("reached", x.reached(1), true);
        Due.fact(x, 1, 0, 32, 5, P);
    }

    private static void simpleInstructions() {
        FactFlow x = new FactFlow();
        x.add(0, 0, 0, MIN);
        x.add(1, 1, 0, 0);
        x.add(6, 0, 0, 0);
        x.add(1, 2, 0, 0);
        x.add(10, 0, 0, 0);
        x.add(12, 0, 0, 0);
        x.add(0, 0, 0, 0);
        x.add(12, 0, 0, 0);
        Due.fact(x, 1, 0, 32, MIN, M);
        Due.fact(x, 2, 1, 32, MIN, M);
        Due.fact(x, 2, 0, 32, MIN, M);
        Due.fact(x, 3, 0, 0, 0, ALL);
        Due.fact(x, 4, 2, 0, 0, ALL);
        Due.fact(x, 5, 2, 0, 0, ALL);
        Due.fact(x, 6, 1, 32, MIN, M);
        Due.fact(x, 7, 0, 32, 0, Z);
    }

    /** Number 6 is come to with p of variable 0 on one way, and with q on another. */
    private static FactFlow either(int p, int q) {
        FactFlow x = new FactFlow();
        x.add(6, 3, 0, 0);
        x.add(7, 3, 0, 4);
        x.add(0, 0, 0, p);
        x.add(9, 0, 0, 5);
        x.add(0, 0, 0, q);
        x.add(0, 3, 0, 0);
        return x;
    }

    private static void join(int p, int q, int bits, int rest, int signs) {
        FactFlow x = either(p, q);
        Due.fact(x, 5, 0, bits, rest, signs);
        FactFlow y = either(q, p);
        Due.fact(y, 5, 0, bits, rest, signs);
    }

    private static void joinsOfNumbers() {
        join(5, 5, 32, 5, P);
        join(-7, -7, 32, -7, M);
        join(0, 0, 32, 0, Z);
        join(0, 65536, 16, 0, Z | P);
        join(0, MIN, 16, 0, M | Z);
        join(1, 65537, 16, 1, P);
        join(-1, 65535, 16, 65535, M | P);
        join(MAX, -1, 16, 65535, M | P);
        join(1, 1 << 20 | 1, 16, 1, P);
        join(32768, 0, 15, 0, Z | P);
        join(32769, 1, 15, 1, P);
        join(5, 13, 3, 5, P);
        join(5, 7, 1, 1, P);
        join(5, 6, 0, 0, P);
        join(0, 6, 1, 0, Z | P);
        join(0, -1, 0, 0, M | Z);
        join(-4, 4, 3, 4, M | P);
    }

    private static void joinsOfBits() {
        FactFlow x = new FactFlow();
        x.add(6, 3, 0, 0);
        x.add(7, 3, 0, 5);
        x.add(8, 3, 0, 7);
        x.add(0, 0, 0, 5);
        x.add(9, 0, 0, 8);
        x.add(0, 0, 0, 21);
        x.add(9, 0, 0, 8);
        x.add(0, 0, 0, -59);
        x.add(12, 0, 0, 0);
        Due.fact(x, 8, 0, 4, 5, M | P);
        // Known bits joined with fewer known bits that agree.
        x.put(7, 0, 0, 0, 13);
        Due.fact(x, 8, 0, 3, 5, P);
        x.put(7, 6, 0, 0, 0);
        Due.fact(x, 8, 0, 0, 0, ALL);
    }

    private static void joinedFactsKeepTheirRest() {
        FactFlow x = either(70000, 4464);
        Due.fact(x, 5, 0, 16, 4464, P);
        FactFlow y = either(-65536 - 3, -3);
        Due.fact(y, 5, 0, 16, 65533, M);
    }

    /** A program that makes variable v a fact without bits and with just these signs. */
    private static void make(FactFlow x, int v, int signs) {
        x.add(6, v, 0, 0);
        int first = x.length();
        if ((signs & M) == 0) {
            // Back to the reading when it is less than 0.
            x.add(8, v, 0, first - 1);
        }
        if ((signs & Z) == 0) {
            x.add(7, v, 0, first - 1);
        }
        if ((signs & P) == 0) {
            int at = x.length();
            if (signs == (M | Z)) {
                x.add(8, v, 0, at + 3);
                x.add(7, v, 0, at + 3);
                x.add(9, 0, 0, first - 1);
            } else if (signs == M) {
                x.add(8, v, 0, at + 2);
                x.add(9, 0, 0, first - 1);
            } else {
                x.add(7, v, 0, at + 2);
                x.add(9, 0, 0, first - 1);
            }
        }
    }

    private static void signsOf(int operation, int x, int y, int due) {
        FactFlow f = new FactFlow();
        make(f, 0, x);
        make(f, 1, y);
        int at = f.length();
        f.add(operation, 2, 0, 1);
        f.add(12, 0, 0, 0);
        String what = "operation " + operation + " of signs " + x + ", " + y;
        Due.is(what + ": x", f.signs(at, 0), x);
        Due.is(what + ": y", f.signs(at, 1), y);
        Due.is(what, f.signs(at + 1, 2), due);
        Due.is(what + ": bits", f.bits(at + 1, 2), due == Z ? 32 : 0);
    }

    private static void signsOfSums() {
        signsOf(2, M, M, ALL);
        signsOf(2, M, Z, M);
        signsOf(2, M, P, ALL);
        signsOf(2, Z, M, M);
        signsOf(2, Z, Z, Z);
        signsOf(2, Z, P, P);
        signsOf(2, P, M, ALL);
        signsOf(2, P, Z, P);
        signsOf(2, P, P, M | P);
        signsOf(2, Z | P, Z | P, ALL);
        signsOf(2, Z | P, P, M | P);
        signsOf(2, M | Z, Z, M | Z);
        signsOf(2, M | P, Z, M | P);
        signsOf(2, ALL, Z, ALL);
        signsOf(2, Z, Z | P, Z | P);
    }

    private static void signsOfDifferences() {
        signsOf(3, M, M, ALL);
        signsOf(3, M, Z, M);
        signsOf(3, M, P, M | P);
        signsOf(3, Z, M, M | P);
        signsOf(3, Z, Z, Z);
        signsOf(3, Z, P, M);
        signsOf(3, P, M, M | P);
        signsOf(3, P, Z, P);
        signsOf(3, P, P, ALL);
        signsOf(3, Z, Z | P, M | Z);
        signsOf(3, Z | P, Z, Z | P);
        signsOf(3, P, M | Z, M | P);
        signsOf(3, Z, ALL, ALL);
        signsOf(3, Z, M | P, M | P);
    }

    private static void signsOfProducts() {
        signsOf(4, M, M, ALL);
        signsOf(4, M, Z, Z);
        signsOf(4, M, P, ALL);
        signsOf(4, Z, M, Z);
        signsOf(4, Z, Z, Z);
        signsOf(4, Z, P, Z);
        signsOf(4, P, M, ALL);
        signsOf(4, P, Z, Z);
        signsOf(4, P, P, ALL);
        signsOf(4, ALL, Z, Z);
    }

    private static void signsOfQuotients() {
        signsOf(5, M, M, ALL);
        signsOf(5, M, P, M | Z);
        signsOf(5, Z, M, Z);
        signsOf(5, Z, P, Z);
        signsOf(5, P, M, M | Z);
        signsOf(5, P, P, Z | P);
        signsOf(5, Z, M | P, Z);
        signsOf(5, Z, ALL, Z);
        signsOf(5, P, Z | P, Z | P);
        signsOf(5, P, M | Z, M | Z);
        signsOf(5, Z | P, Z | P, Z | P);
        signsOf(5, M | P, P, ALL);
        signsOf(5, P, ALL, ALL);
    }

    /** The result of an operation for variable 0, that is p or q, and variable 1, that is s or t. */
    private static void result(int operation, int[] x, int[] y, int bits, int rest, int signs) {
        FactFlow f = new FactFlow();
        f.add(6, 3, 0, 0);
        f.add(0, 0, 0, x[0]);
        f.add(7, 3, 0, 4);
        f.add(0, 0, 0, x[1]);
        f.add(0, 1, 0, y[0]);
        f.add(7, 3, 0, 7);
        f.add(0, 1, 0, y[1]);
        f.add(operation, 2, 0, 1);
        f.add(12, 0, 0, 0);
        Due.fact(f, 8, 2, bits, rest, signs);
    }

    private static int[] just(int p) {
        return new int[] {p, p};
    }

    private static int[] or(int p, int q) {
        return new int[] {p, q};
    }

    private static void bitsOfSums() {
        result(2, just(MAX), just(1), 32, MIN, M);
        result(2, just(MIN), just(MIN), 32, 0, Z);
        result(2, just(5), just(-5), 32, 0, Z);
        result(3, just(MIN), just(1), 32, MAX, P);
        result(3, just(0), just(MIN), 32, MIN, M);
        result(3, just(3), just(5), 32, -2, M);
        // 3 bits (5) and 4 bits (9): 3 bits, 14 mod 8.
        result(2, or(5, 13), or(9, 25), 3, 6, M | P);
        result(2, or(9, 25), or(5, 13), 3, 6, M | P);
        result(2, or(5, 13), just(3), 3, 0, M | P);
        result(2, or(5, 13), just(-5), 3, 0, ALL);
        result(3, or(5, 13), or(9, 25), 3, 4, M | P);
        result(3, or(5, 13), just(6), 3, 7, M | P);
        result(3, just(6), or(5, 13), 3, 1, M | P);
        result(3, or(5, 13), just(5), 3, 0, ALL);
        // 16 bits beside 32 are 16.
        result(2, or(65537, 1), just(65535), 16, 0, M | P);
        result(2, or(65536, 0), just(70000), 16, 4464, M | P);
        result(3, or(65536, 0), just(1), 16, 65535, M | P);
    }

    private static void bitsOfProducts() {
        result(4, just(65536), just(65536), 32, 0, Z);
        result(4, just(MIN), just(-1), 32, MIN, M);
        result(4, just(123456789), just(987654321), 32, 123456789 * 987654321, M);
        // 3 bits (5) by 6: one more; 14 of 16.
        result(4, or(5, 13), just(6), 4, 14, M | P);
        result(4, just(6), or(5, 13), 4, 14, M | P);
        // 3 bits (4) by 3 bits (4): 5 bits.
        result(4, or(4, 12), or(4, 12), 5, 16, M | P);
        // 3 bits of 0 by 4 bits of 0: 7 bits, by 16 bits: 19, so 16, by 32 bits of 0: all.
        result(4, or(0, 8), or(0, 16), 7, 0, ALL);
        result(4, or(0, 8), or(0, 65536), 16, 0, ALL);
        result(4, or(0, 8), just(0), 32, 0, Z);
        result(4, just(0), or(1, 2), 32, 0, Z);
        // 16 bits by 16 bits: 32 when both are 0, else 16.
        result(4, or(0, 65536), or(0, 65536), 32, 0, Z);
        result(4, or(0, 65536), or(32768, 65536 + 32768), 16, 0, ALL);
        result(4, or(3, 65539), or(5, 65541), 16, 15, M | P);
        // 16 bits by a number with 16 last bits 0: all of them.
        result(4, or(3, 65539), just(65536), 32, 3 << 16, P);
        result(4, just(65536), or(65535, -1), 32, -65536, M);
        result(4, just(32768), or(3, 65539), 16, 32768, M | P);
        result(4, or(3, 65539), just(32768), 16, 32768, M | P);
        // No bits by a number with last bits 0.
        result(4, or(0, 1), just(24), 3, 0, ALL);
        result(4, just(MIN), or(0, 1), 16, 0, ALL);
        result(4, just(MIN), or(0, 2), 32, 0, Z);
        result(4, just(MIN), or(1, 3), 32, MIN, M);
        result(4, just(1 << 30), or(1, 3), 16, 0, ALL);
        // No bits by no bits.
        result(4, or(1, 2), or(1, 2), 0, 0, ALL);
    }

    private static void bitsOfQuotients() {
        result(5, just(7), just(2), 32, 3, P);
        result(5, just(-7), just(2), 32, -3, M);
        result(5, just(7), just(-2), 32, -3, M);
        result(5, just(-7), just(-2), 32, 3, P);
        result(5, just(1), just(2), 32, 0, Z);
        result(5, just(9), just(1), 32, 9, P);
        result(5, just(MIN), just(-1), 32, MIN, M);
        result(5, just(MIN), just(MIN), 32, 1, P);
        result(5, or(4, 8), just(2), 0, 0, Z | P);
        result(5, just(8), or(2, 4), 0, 0, Z | P);
        result(5, just(0), or(2, 4), 32, 0, Z);
        result(5, or(4, 8), or(-2, -4), 0, 0, M | Z);
    }

    private static void divisionTakesZeroAway() {
        FactFlow x = new FactFlow();
        x.add(6, 1, 0, 0);
        x.add(0, 0, 0, 9);
        x.add(5, 2, 0, 1);
        x.add(5, 1, 0, 1);
        x.add(12, 0, 0, 0);
        Due.fact(x, 2, 1, 0, 0, ALL);
        Due.fact(x, 3, 1, 0, 0, M | P);
        Due.fact(x, 3, 2, 0, 0, ALL);
        Due.fact(x, 3, 0, 32, 9, P);
        // The result stands in the place of the divisor.
        Due.fact(x, 4, 1, 0, 0, ALL);
        x.clear();
        x.add(6, 0, 0, 0);
        x.add(5, 1, 0, 0);
        x.add(12, 0, 0, 0);
        Due.fact(x, 2, 0, 0, 0, M | P);
        x.clear();
        x.add(5, 0, 0, 1);
        x.add(12, 0, 0, 0);
        Due.is("behind a division by 0", x.reached(1), false);
        Due.fact(x, 1, 0, FactFlow.BAD, 0, 0);
    }

    private static void ways() {
        FactFlow x = new FactFlow();
        x.add(6, 0, 0, 0);
        x.add(7, 0, 0, 4);
        x.add(8, 0, 0, 6);
        x.add(11, 0, 0, 0);
        x.add(12, 0, 0, 0);
        x.add(11, 0, 0, 0);
        x.add(12, 0, 0, 0);
        Due.fact(x, 2, 0, 0, 0, M | P);
        Due.fact(x, 3, 0, 0, 0, P);
        Due.fact(x, 4, 0, 32, 0, Z);
        Due.fact(x, 6, 0, 0, 0, M);
        // Both ways lead to one place: all is joined there again.
        x.put(1, 7, 0, 0, 2);
        Due.fact(x, 2, 0, 0, 0, ALL);
        x.put(1, 8, 0, 0, 2);
        Due.fact(x, 2, 0, 0, 0, ALL);
    }

    private static void waysReduce() {
        FactFlow x = new FactFlow();
        make(x, 0, M | Z);
        int at = x.length();
        x.add(8, 0, 0, at + 2);
        x.add(12, 0, 0, 0);
        x.add(12, 0, 0, 0);
        Due.fact(x, at, 0, 0, 0, M | Z);
        // Not less than 0, so it is 0, with all its bits.
        Due.fact(x, at + 1, 0, 32, 0, Z);
        // Odd, so never 0: the way to the target is none.
        FactFlow y = either(5, 7);
        y.add(7, 0, 0, 8);
        y.add(11, 0, 0, 0);
        y.add(12, 0, 0, 0);
        Due.is("reached 7", y.reached(7), true);
        Due.is("reached 8", y.reached(8), false);
    }

    private static void whatIsNotReached() {
        FactFlow x = new FactFlow();
        x.add(9, 0, 0, 2);
        x.add(12, 0, 0, 0);
        x.add(7, 0, 0, 4);
        x.add(12, 0, 0, 0);
        x.add(8, 0, 0, 6);
        x.add(11, 0, 0, 0);
        x.add(12, 0, 0, 0);
        boolean[] due = {true, false, true, false, true, true, false};
        for (int i = 0; i < due.length; i++) {
            Due.is("reached " + i, x.reached(i), due[i]);
            Due.fact(x, i, 0, due[i] ? 32 : FactFlow.BAD, 0, due[i] ? Z : 0);
        }
        // A jump behind the last one comes to nothing, but to what is added there later.
        x.put(0, 9, 0, 0, 7);
        for (int i = 1; i < 7; i++) {
            Due.is("reached " + i, x.reached(i), false);
        }
        x.add(12, 0, 0, 0);
        Due.is("reached 7", x.reached(7), true);
    }

    private static void loops() {
        FactFlow x = new FactFlow();
        x.add(0, 1, 0, 12);
        x.add(0, 2, 0, 1);
        x.add(2, 0, 0, 1);
        x.add(4, 2, 2, 1);
        x.add(6, 3, 0, 0);
        x.add(7, 3, 0, 2);
        x.add(12, 0, 0, 0);
        // 0, 12, 24, ..: 2 last bits of 0; by then the product's too.
        Due.fact(x, 2, 0, 2, 0, ALL);
        Due.fact(x, 2, 1, 32, 12, P);
        Due.fact(x, 2, 2, 0, 0, ALL);
        Due.fact(x, 3, 0, 2, 0, ALL);
        Due.fact(x, 4, 2, 2, 0, ALL);
        Due.fact(x, 6, 3, 0, 0, M | P);
        // Nothing goes on behind STOP.
        x.put(5, 11, 0, 0, 0);
        Due.fact(x, 2, 0, 32, 0, Z);
        Due.fact(x, 5, 2, 32, 12, P);
        Due.is("behind STOP", x.reached(6), false);
        // An odd number stays odd when 2 is added again and again; it wraps to MINUS and is never ZERO.
        FactFlow y = new FactFlow();
        y.add(0, 0, 0, 1);
        y.add(0, 1, 0, 2);
        y.add(2, 0, 0, 1);
        y.add(7, 0, 0, 5);
        y.add(9, 0, 0, 2);
        y.add(12, 0, 0, 0);
        Due.fact(y, 2, 0, 1, 1, M | P);
        Due.is("behind the loop", y.reached(5), false);
    }

    private static void oneStateIsNoneWhenOneFactIs() {
        FactFlow x = new FactFlow();
        x.add(0, 1, 0, 5);
        x.add(6, 2, 0, 0);
        x.add(8, 1, 0, 4);
        x.add(11, 0, 0, 0);
        x.add(12, 0, 0, 0);
        Due.is("reached", x.reached(4), false);
        for (int v = 0; v < 4; v++) {
            Due.fact(x, 4, v, FactFlow.BAD, 0, 0);
        }
    }
}
