/** The boundary cases of promise 11: a test for each sentence. */
public final class RewriteEdgesTest {
    private static final int MIN = Integer.MIN_VALUE, MAX = Integer.MAX_VALUE;
    private static final int M = 1, Z = 2, P = 4, ALL = 7;

    public static void main(String[] args) {
        withoutAProgram();
        notReachedBecomesStop();
        onlyOneInstruction();
        copiesOf32Bits();
        resultsOf32Bits();
        productsAtTheEdgeOf32Bits();
        divisionWhenTheDivisorHasNoZero();
        divisionWhenTheDivisorMayBeZero();
        divisionByZeroAlone();
        leastIntByMinus1();
        waysOfIfZero();
        waysOfIfNeg();
        targetsAtTheEnds();
        nextOneBehindTheLast();
        othersStay();
        whatIsNotUsedIs0();
        countsFromNoneToAll();
        allByTheStatesOfBefore();
        secondTimeChangesNothing();
        restOfTheObjectStays();
        Due.end();
    }

    private static int[] n(int... numbers) {
        return numbers;
    }

    /** Makes variables 0 and 1 one of these numbers and one of those; the instruction stands behind, then a PRINT. */
    private static FactFlow behind(int[] xs, int[] ys, int operation, int a, int b, int c) {
        FactFlow x = new FactFlow();
        Maker.oneOf(x, 0, xs);
        Maker.oneOf(x, 1, ys);
        x.add(operation, a, b, c);
        x.add(10, 2, 0, 0);
        return x;
    }

    private static void becomesSet(int[] xs, int[] ys, int operation, int number) {
        FactFlow x = behind(xs, ys, operation, 2, 0, 1);
        int at = x.length() - 2;
        Due.is("rewrite() of " + operation, x.rewrite(), 1);
        Due.code(x, at, 0, 2, 0, number);
        Due.code(x, at + 1, 10, 2, 0, 0);
    }

    private static void stays(int[] xs, int[] ys, int operation) {
        FactFlow x = behind(xs, ys, operation, 2, 0, 1);
        int at = x.length() - 2;
        Due.is("rewrite() of " + operation, x.rewrite(), 0);
        Due.code(x, at, operation, 2, 0, operation == 1 ? 0 : 1);
        Due.code(x, at + 1, 10, 2, 0, 0);
    }

    private static void withoutAProgram() {
        Due.by("Promise 11: Each instruction is rewritten (there is none)");
        FactFlow x = new FactFlow();
        Due.is("rewrite()", x.rewrite(), 0);
        Due.is("length()", x.length(), 0);
        x.add(1, 0, 0, 0);
        x.clear();
        Due.is("rewrite()", x.rewrite(), 0);
        Due.is("length()", x.length(), 0);
    }

    private static void notReachedBecomesStop() {
        Due.by("Promise 11: one that isn't reached becomes 11 STOP; (Those that are another instruction then.)");
        for (int operation = 0; operation <= 12; operation++) {
            FactFlow x = new FactFlow();
            x.add(11, 0, 0, 0);
            x.add(operation, 3, 3, 3);
            x.add(operation, 2, 1, 1);
            Due.is("rewrite() of " + operation, x.rewrite(), operation == 11 ? 0 : 2);
            Due.is("length()", x.length(), 3);
            for (int i = 0; i < 3; i++) {
                Due.code(x, i, 11, 0, 0, 0);
            }
        }
    }

    private static void onlyOneInstruction() {
        Due.by("Promise 11: Each instruction is rewritten by its state (the first one is always reached)");
        int[][] becomes = {{0, 3, 0, 3}, {0, 3, 0, 0}, {0, 3, 0, 0}, {0, 3, 0, 0}, {0, 3, 0, 0}, {5, 3, 3, 3},
            {6, 3, 0, 0}, {9, 0, 0, 3}, {9, 0, 0, 1}, {9, 0, 0, 3}, {10, 3, 0, 0}, {11, 0, 0, 0}, {12, 0, 0, 0}};
        for (int operation = 0; operation <= 12; operation++) {
            FactFlow x = new FactFlow();
            x.add(operation, 3, 3, 3);
            int[] due = becomes[operation];
            Due.is("rewrite() of " + operation, x.rewrite(), due[0] == operation ? 0 : 1);
            Due.code(x, 0, due[0], due[1], due[2], due[3]);
        }
    }

    private static void copiesOf32Bits() {
        Due.by("Promise 11: 1 to 4 .. become 0 SET when the result for a has 32 bits (1)");
        for (int number : new int[] {MIN, -1, 0, 1, 65536, MAX}) {
            becomesSet(n(number), n(7), 1, number);
            becomesSet(n(number, number), n(7), 1, number);
        }
        stays(n(5, 5 + 65536), n(7), 1);
        stays(n(0, MIN), n(7), 1);
        stays(n(0, 1), n(7), 1);
        // Behind a test for 0 it is just ZERO, and so has 32 bits.
        FactFlow x = new FactFlow();
        x.add(6, 0, 0, 0);
        x.add(7, 0, 0, 3);
        x.add(11, 0, 0, 0);
        x.add(1, 2, 0, 0);
        Due.is("rewrite()", x.rewrite(), 1);
        Due.code(x, 3, 0, 2, 0, 0);
    }

    private static void resultsOf32Bits() {
        Due.by("Promise 11: 1 to 4 .. become 0 SET when the result for a has 32 bits (2, 3)");
        becomesSet(n(MAX - 1), n(1), 2, MAX);
        becomesSet(n(MAX), n(1), 2, MIN);
        becomesSet(n(-5), n(5), 2, 0);
        becomesSet(n(MIN), n(1), 3, MAX);
        becomesSet(n(0), n(MIN), 3, MIN);
        becomesSet(n(5), n(5), 3, 0);
        for (int operation : new int[] {2, 3}) {
            stays(n(5, 5 + 65536), n(1), operation);
            stays(n(1), n(5, 5 + 65536), operation);
            stays(n(5, 5 + 65536), n(0), operation);
            stays(n(0, 1), n(1, 2), operation);
        }
    }

    private static void productsAtTheEdgeOf32Bits() {
        Due.by("Promise 11: 1 to 4 .. become 0 SET when the result for a has 32 bits (4)");
        becomesSet(n(46341), n(46341), 4, -2147479015);
        // 16 known bits by 2^15, 2^16: 31 bits, 32 bits.
        stays(n(3, 3 + 65536), n(32768), 4);
        becomesSet(n(3, 3 + 65536), n(65536), 4, 3 << 16);
        becomesSet(n(65536), n(3, 3 + 65536), 4, 3 << 16);
        stays(n(3, 3 + 32768), n(65536), 4);
        stays(n(0, 65536), n(0, 32768), 4);
        becomesSet(n(0, 65536), n(0, 65536), 4, 0);
        stays(n(0, 1), n(MIN), 4);
        becomesSet(n(0, 2), n(MIN), 4, 0);
        becomesSet(n(1, 3), n(MIN), 4, MIN);
        becomesSet(n(0, 1), n(0), 4, 0);
        becomesSet(n(0), n(0, 1), 4, 0);
        stays(n(0, 1), n(1), 4);
    }

    private static void divisionWhenTheDivisorHasNoZero() {
        Due.by("Promise 11: and 5 when c has no ZERO, become 0 SET when the result for a has 32 bits");
        becomesSet(n(7), n(-2), 5, -3);
        becomesSet(n(-7), n(2), 5, -3);
        becomesSet(n(1), n(2), 5, 0);
        becomesSet(n(7), n(1), 5, 7);
        becomesSet(n(7), n(-1), 5, -7);
        // 0 by anything but 0 is 0.
        becomesSet(n(0), n(1, 2), 5, 0);
        becomesSet(n(0), n(-1, 2), 5, 0);
        becomesSet(n(0), n(-1, -2), 5, 0);
        stays(n(7), n(1, 2), 5);
        stays(n(7, 8), n(1), 5);
        stays(n(5, 5 + 65536), n(1), 5);
    }

    private static void divisionWhenTheDivisorMayBeZero() {
        Due.by("Promise 11: and 5 when c has no ZERO");
        for (int signs = 1; signs <= 7; signs++) {
            if (signs == Z) {
                continue;
            }
            if ((signs & Z) == 0) {
                becomesSet(n(0), Maker.withSigns(signs), 5, 0);
                becomesSet(n(0), Maker.sixteens(signs), 5, 0);
            } else {
                stays(n(0), Maker.withSigns(signs), 5);
                stays(n(0), Maker.sixteens(signs), 5);
            }
        }
        // One last bit that is 1 is enough against ZERO.
        becomesSet(n(0), n(-1, 1), 5, 0);
    }

    private static void divisionByZeroAlone() {
        Due.by("Promise 11: 5 when c has no ZERO; one that isn't reached becomes 11 STOP");
        for (int number : new int[] {-1, 0, 1}) {
            FactFlow x = behind(n(number), n(0), 5, 2, 0, 1);
            Due.is("rewrite()", x.rewrite(), 1);
            Due.code(x, 2, 5, 2, 0, 1);
            Due.code(x, 3, 11, 0, 0, 0);
            Due.is("run", x.run(9), 2);
            Due.is("next()", x.next(), 2);
        }
        // The divisor is the number itself.
        FactFlow y = new FactFlow();
        y.add(6, 0, 0, 0);
        y.add(7, 0, 0, 3);
        y.add(11, 0, 0, 0);
        y.add(5, 1, 0, 0);
        Due.is("rewrite()", y.rewrite(), 0);
        Due.code(y, 3, 5, 1, 0, 0);
    }

    private static void leastIntByMinus1() {
        Due.by("Terms: (the least int by -1 is itself)");
        becomesSet(n(MIN), n(-1), 5, MIN);
        becomesSet(n(MIN + 1), n(-1), 5, MAX);
        becomesSet(n(MIN), n(1), 5, MIN);
        becomesSet(n(MIN), n(-2), 5, 1 << 30);
    }

    /** Signs with which it jumps: just those, none of those, or both. */
    private static void way(int operation, int jumping, int[] numbers, int signs) {
        FactFlow x = new FactFlow();
        Maker.oneOf(x, 1, numbers);
        int at = x.length();
        x.add(operation, 1, 0, at + 3);
        x.add(12, 0, 0, 0);
        x.add(12, 0, 0, 0);
        x.add(12, 0, 0, 0);
        boolean jumps = (signs & jumping) != 0, passes = (signs & ~jumping) != 0;
        // When it always jumps, the two behind it are not reached.
        Due.is("rewrite(), signs " + signs, x.rewrite(), jumps && passes ? 0 : passes ? 1 : 3);
        if (jumps && passes) {
            Due.code(x, at, operation, 1, 0, at + 3);
        } else {
            Due.code(x, at, 9, 0, 0, passes ? at + 1 : at + 3);
        }
        Due.is("code behind", x.code(at + 1, 0), passes ? 12 : 11);
        Due.is("code at the target", x.code(at + 3, 0), 12);
    }

    private static void waysOfIfZero() {
        Due.by("Promise 11: 7 .. become 9 GOTO when only one way comes of the state");
        for (int signs = 1; signs <= 7; signs++) {
            way(7, Z, Maker.withSigns(signs), signs);
            way(7, Z, Maker.sixteens(signs), signs);
        }
        way(7, Z, n(-1, 1), M | P);
        way(7, Z, n(MIN), M);
        way(7, Z, n(1), P);
    }

    private static void waysOfIfNeg() {
        Due.by("Promise 11: .. and 8 become 9 GOTO when only one way comes of the state");
        for (int signs = 1; signs <= 7; signs++) {
            way(8, M, Maker.withSigns(signs), signs);
            way(8, M, Maker.sixteens(signs), signs);
        }
        way(8, M, n(-1), M);
        way(8, M, n(MIN, -1), M);
        way(8, M, n(MAX), P);
    }

    private static void targetsAtTheEnds() {
        Due.by("Promise 11: become 9 GOTO .. (to the target ..)");
        for (int target : new int[] {0, 1, 2, 3, 23, 24}) {
            FactFlow x = new FactFlow();
            x.add(12, 0, 0, 0);
            x.add(7, 3, 0, target);
            Due.is("rewrite()", x.rewrite(), 1);
            Due.code(x, 1, 9, 0, 0, target);
            x.clear();
            x.add(0, 3, 0, -1);
            x.add(8, 3, 0, target);
            // From 0 it would come back with -1 or 0, and is then still MINUS before 1.
            Due.is("rewrite()", x.rewrite(), 1);
            Due.code(x, 1, 9, 0, 0, target);
        }
        // Two ways to one place, or one to itself, are two ways still.
        for (int operation : new int[] {7, 8}) {
            for (int target : new int[] {1, 2}) {
                FactFlow y = new FactFlow();
                y.add(6, 3, 0, 0);
                y.add(operation, 3, 0, target);
                y.add(12, 0, 0, 0);
                Due.is("rewrite()", y.rewrite(), 0);
                Due.code(y, 1, operation, 3, 0, target);
            }
        }
    }

    private static void nextOneBehindTheLast() {
        Due.by("Promise 11: become 9 GOTO .. (.. or to the next one)");
        for (int length : new int[] {1, 2, 23, 24}) {
            FactFlow x = new FactFlow();
            for (int i = 0; i < length - 1; i++) {
                x.add(12, 0, 0, 0);
            }
            x.add(8, 0, 0, 0);
            Due.is("rewrite()", x.rewrite(), 1);
            Due.code(x, length - 1, 9, 0, 0, length);
            Due.is("run", x.run(2000), 1);
            Due.is("steps()", x.steps(), length);
        }
    }

    private static void othersStay() {
        Due.by("Promise 11: (0, 6, 9, 10, 11 and 12 that are reached are not rewritten)");
        FactFlow x = new FactFlow();
        x.add(0, 0, 0, 0);
        x.add(6, 1, 0, 0);
        x.add(9, 0, 0, 3);
        x.add(10, 0, 0, 0);
        x.add(12, 0, 0, 0);
        x.add(11, 0, 0, 0);
        Due.is("rewrite()", x.rewrite(), 0);
        Due.code(x, 0, 0, 0, 0, 0);
        Due.code(x, 1, 6, 1, 0, 0);
        Due.code(x, 2, 9, 0, 0, 3);
        Due.code(x, 3, 10, 0, 0, 0);
        Due.code(x, 4, 12, 0, 0, 0);
        Due.code(x, 5, 11, 0, 0, 0);
    }

    private static void whatIsNotUsedIs0() {
        Due.by("Promise 11: What isn't used is 0 then");
        FactFlow x = new FactFlow();
        x.add(1, 3, 2, 0);
        x.add(2, 3, 2, 1);
        x.add(8, 3, 0, 7);
        x.add(7, 3, 0, 5);
        x.add(5, 3, 2, 1);
        x.add(11, 0, 0, 0);
        x.add(8, 3, 0, 7);
        Due.is("rewrite()", x.rewrite(), 6);
        Due.code(x, 0, 0, 3, 0, 0);
        Due.code(x, 1, 0, 3, 0, 0);
        Due.code(x, 2, 9, 0, 0, 3);
        Due.code(x, 3, 9, 0, 0, 5);
        Due.code(x, 4, 11, 0, 0, 0);
        Due.code(x, 5, 11, 0, 0, 0);
        Due.code(x, 6, 11, 0, 0, 0);
    }

    private static void countsFromNoneToAll() {
        Due.by("Promise 11: Answers how many were changed");
        for (int changed : new int[] {0, 1, 2, 23, 24}) {
            FactFlow x = new FactFlow();
            for (int i = 0; i < 24; i++) {
                x.add(i < changed ? 1 : 12, 0, 1, 0);
            }
            Due.is("rewrite()", x.rewrite(), changed);
            for (int i = 0; i < 24; i++) {
                Due.is("code(" + i + ", 0)", x.code(i, 0), i < changed ? 0 : 12);
            }
        }
        FactFlow y = new FactFlow();
        y.add(9, 0, 0, 24);
        for (int i = 1; i < 24; i++) {
            y.add(10, 0, 0, 0);
        }
        Due.is("rewrite(), all but the first", y.rewrite(), 23);
    }

    private static void allByTheStatesOfBefore() {
        Due.by("Promise 11: Each instruction is rewritten by its state");
        FactFlow x = new FactFlow();
        x.add(0, 0, 0, 1);
        for (int i = 1; i < 24; i++) {
            x.add(2, 0, 0, 0);
        }
        Due.is("rewrite()", x.rewrite(), 23);
        for (int i = 1; i < 24; i++) {
            Due.code(x, i, 0, 0, 0, 1 << i);
        }
        Due.fact(x, 23, 0, 32, 1 << 22, P);
    }

    private static void secondTimeChangesNothing() {
        Due.by("Promise 11: Answers how many were changed. (Those that are another instruction then.)");
        FactFlow x = new FactFlow();
        x.add(1, 0, 1, 0);
        x.add(7, 0, 0, 3);
        x.add(10, 0, 0, 0);
        x.add(6, 2, 0, 0);
        x.add(5, 1, 0, 2);
        x.add(8, 2, 0, 0);
        Due.fact(x, 5, 2, 0, 0, M | P);
        Due.is("rewrite()", x.rewrite(), 3);
        Due.is("rewrite()", x.rewrite(), 0);
        Due.code(x, 0, 0, 0, 0, 0);
        Due.code(x, 1, 9, 0, 0, 3);
        Due.code(x, 2, 11, 0, 0, 0);
        Due.code(x, 4, 5, 1, 0, 2);
        Due.code(x, 5, 8, 2, 0, 0);
        Due.fact(x, 0, 2, 0, 0, M | Z);
        Due.fact(x, 4, 2, 0, 0, ALL);
    }

    private static void restOfTheObjectStays() {
        Due.by("Promise 11: (nothing but instructions is rewritten)");
        FactFlow x = new FactFlow();
        x.input(-7);
        x.add(6, 1, 0, 0);
        x.add(10, 1, 0, 0);
        x.add(1, 2, 3, 0);
        x.run(2);
        Due.is("rewrite()", x.rewrite(), 1);
        Due.is("length()", x.length(), 3);
        Due.is("steps()", x.steps(), 2);
        Due.is("next()", x.next(), 2);
        Due.is("variable(1)", x.variable(1), -7);
        Due.is("outputs()", x.outputs(), 1);
        Due.is("output(0)", x.output(0), -7);
        x.run(3);
        Due.is("variable(1)", x.variable(1), -7);
    }
}
