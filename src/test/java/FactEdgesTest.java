/** The boundary cases of promises 7 to 10, and of what the terms say of facts: a test for each sentence. */
public final class FactEdgesTest {
    private static final int MIN = Integer.MIN_VALUE, MAX = Integer.MAX_VALUE;
    private static final int BAD = FactFlow.BAD;
    private static final int M = 1, Z = 2, P = 4, ALL = 7;

    /** Rows: the sign of x, columns: that of y, each MINUS, ZERO, PLUS; by operation 2 to 5. */
    private static final int[][][] SIGNS = {
        {{ALL, M, ALL}, {M, Z, P}, {ALL, P, M | P}},
        {{ALL, M, M | P}, {M | P, Z, M}, {M | P, P, ALL}},
        {{ALL, Z, ALL}, {Z, Z, Z}, {ALL, Z, ALL}},
        {{ALL, 0, M | Z}, {Z, 0, Z}, {M | Z, 0, Z | P}},
    };

    public static void main(String[] args) {
        reachedOfNoInstruction();
        factsOfNoInstruction();
        factsOfNoVariable();
        factsOfWhatIsNotReached();
        bitsAre0To16Or32();
        restIsBelow2ToTheK();
        restOf32BitsIsAnyInt();
        all32BitsHaveOneSign();
        zeroOnlyWhenTheRestIs0();
        justZeroHasAllBits();
        noSignIsNone();
        joinKnowsWhatBothKnow();
        joinOfSigns();
        stateIsNoneWhenOneFactIs();
        joinedWithNoneStays();
        sumsKnowTheLesser();
        sumsWrapInTheirBits();
        sumsOfNumbersWrap();
        productsByTheLeastOfThree();
        productsAtTheEdgesOf16And32();
        productsOfUnknownByZeros();
        productsOfNumbersWrap();
        quotientsKnowAllOrNothing();
        quotientsOfNumbers();
        signsOfAllPairs();
        comesOfSet();
        comesOfCopy();
        comesOfRead();
        divisionTakesZeroAway();
        divisionInItsOwnPlace();
        comesOfIfZero();
        comesOfIfNeg();
        waysToOnePlace();
        comesOfGotoAndStop();
        comesOfPrintAndSkip();
        waysThatLeadBehindTheLast();
        firstTells0();
        leastOfLoops();
        farWaysBack();
        signsThatGrowInAllVariables();
        allVariablesChangeAtOnce();
        eachCallFindsTheFacts();
        factsFollowTheProgram();
        Due.end();
    }

    private static int signOf(int x) {
        return x < 0 ? M : x == 0 ? Z : P;
    }

    private static int[] n(int... numbers) {
        return numbers;
    }

    /** What is known of a variable that is one of these numbers. */
    private static void known(int[] numbers, int bits, int rest, int signs) {
        FactFlow x = new FactFlow();
        Maker.oneOf(x, 1, numbers);
        x.add(12, 0, 0, 0);
        Due.fact(x, x.length() - 1, 1, bits, rest, signs);
    }

    /** What is known of the result of an operation for one of these numbers and one of those. */
    private static void result(int operation, int[] xs, int[] ys, int bits, int rest, int signs) {
        FactFlow x = new FactFlow();
        Maker.oneOf(x, 0, xs);
        Maker.oneOf(x, 1, ys);
        x.add(operation, 2, 0, 1);
        x.add(12, 0, 0, 0);
        Due.fact(x, x.length() - 1, 2, bits, rest, signs);
    }

    private static void reachedOfNoInstruction() {
        Due.by("Promise 7: Whether an instruction is reached; false when there is none");
        for (int length : new int[] {0, 1, 2, 23, 24}) {
            FactFlow x = Maker.skips(length);
            for (int i : new int[] {MIN, -2, -1, length, length + 1, 24, 25, MAX}) {
                Due.is("reached(" + i + ") of " + length, x.reached(i), false);
            }
            for (int i = 0; i < length; i++) {
                Due.is("reached(" + i + ") of " + length, x.reached(i), true);
            }
        }
    }

    private static void factsOfNoInstruction() {
        Due.by("Promises 8 to 10: BAD, 0, 0 when it isn't reached (there is no such instruction)");
        for (int length : new int[] {0, 1, 23, 24}) {
            FactFlow x = new FactFlow();
            for (int i = 0; i < length; i++) {
                x.add(0, 2, 0, 7);
            }
            for (int i : new int[] {MIN, -1, length, length + 1, 25, MAX}) {
                Due.fact(x, i, 2, BAD, 0, 0);
            }
            if (length > 0) {
                Due.fact(x, 0, 2, 32, 0, Z);
            }
            if (length > 1) {
                Due.fact(x, length - 1, 2, 32, 7, P);
            }
        }
    }

    private static void factsOfNoVariable() {
        Due.by("Promises 8 to 10: BAD, 0, 0 when there is no such variable");
        FactFlow x = new FactFlow();
        for (int v = 0; v < 4; v++) {
            x.add(0, v, 0, v + 5);
        }
        x.add(12, 0, 0, 0);
        for (int v = 0; v < 4; v++) {
            Due.fact(x, 4, v, 32, v + 5, P);
        }
        for (int v : new int[] {MIN, -2, -1, 4, 5, MAX}) {
            Due.fact(x, 4, v, BAD, 0, 0);
            Due.fact(x, 5, v, BAD, 0, 0);
            Due.fact(x, -1, v, BAD, 0, 0);
        }
    }

    private static void factsOfWhatIsNotReached() {
        Due.by("Promises 7 to 10: false, BAD, 0, 0 when it isn't reached");
        FactFlow x = new FactFlow();
        x.add(0, 0, 0, 5);
        x.add(11, 0, 0, 0);
        x.add(12, 0, 0, 0);
        x.add(12, 0, 0, 0);
        for (int i = 0; i < 4; i++) {
            Due.is("reached(" + i + ")", x.reached(i), i < 2);
            for (int v = 0; v < 4; v++) {
                int number = i == 1 && v == 0 ? 5 : 0;
                Due.fact(x, i, v, i < 2 ? 32 : BAD, i < 2 ? number : 0, i < 2 ? signOf(number) : 0);
            }
        }
    }

    private static void bitsAre0To16Or32() {
        Due.by("Terms: k of them (0 .. 16, or 32 for all); (32 if both have 32 and are equal, else at most 16)");
        for (int p : new int[] {0, 1, -1, 6, 0x12345678, 65535, 65536, MAX, MIN}) {
            for (int k = 0; k < 32; k++) {
                int q = p ^ 1 << k;
                int bits = k <= 16 ? k : 16;
                known(n(p, q), bits, p & ((1 << bits) - 1), signOf(p) | signOf(q));
            }
            known(n(p, p), 32, p, signOf(p));
        }
    }

    private static void restIsBelow2ToTheK() {
        Due.by("Terms: a number r (0 .. 2^k - 1 ..)");
        for (int k = 0; k <= 16; k++) {
            int above = 1 << k;
            known(n(above, 2 * above, 3 * above), k, 0, P);
            known(n(above - 1, 2 * above - 1), k, above - 1, k == 0 ? Z | P : P);
            known(n(-1, -1 - above), k, above - 1, M);
            known(n(-above, -2 * above), k, 0, M);
        }
    }

    private static void restOf32BitsIsAnyInt() {
        Due.by("Terms: any int for k = 32");
        for (int number : new int[] {MIN, MIN + 1, -65537, -65536, -1, 0, 1, 65535, 65536, 65537, MAX - 1, MAX}) {
            known(n(number), 32, number, signOf(number));
        }
    }

    private static void all32BitsHaveOneSign() {
        Due.by("Terms: when k is 32, S has just the sign of r");
        // By their signs alone these could have others too.
        result(2, n(3), n(5), 32, 8, P);
        result(2, n(MAX), n(1), 32, MIN, M);
        result(2, n(-3), n(3), 32, 0, Z);
        result(3, n(3), n(5), 32, -2, M);
        result(3, n(5), n(5), 32, 0, Z);
        result(4, n(-3), n(-5), 32, 15, P);
        result(4, n(65536), n(65536), 32, 0, Z);
        result(5, n(-6), n(-3), 32, 2, P);
        result(5, n(6), n(-3), 32, -2, M);
        result(5, n(6), n(-7), 32, 0, Z);
        result(4, n(0, 65536), n(0, 65536), 32, 0, Z);
        result(4, n(1, 3), n(MIN), 32, MIN, M);
    }

    private static void zeroOnlyWhenTheRestIs0() {
        Due.by("Terms: S has ZERO only when r is 0");
        for (int q = 0; q <= 32; q++) {
            int rest = q % 16;
            result(2, Maker.sixteens(ALL), n(q), 4, rest, rest == 0 ? ALL : M | P);
            result(3, Maker.sixteens(ALL), n(q), 4, (16 - rest) % 16, rest == 0 ? ALL : M | P);
        }
        result(4, n(1, 17), n(1, 17), 4, 1, M | P);
        result(4, n(1, 17), n(16, 48), 5, 16, M | P);
        result(4, n(16, 48), n(16, 48), 9, 256, M | P);
        result(4, n(1, 17), n(16, 32), 4, 0, ALL);
    }

    private static void justZeroHasAllBits() {
        Due.by("Terms: when S is just ZERO, k is 32 and r is 0");
        for (int signs = 1; signs <= 7; signs++) {
            for (int[] numbers : new int[][] {Maker.withSigns(signs), Maker.sixteens(signs)}) {
                FactFlow x = new FactFlow();
                Maker.oneOf(x, 1, numbers);
                int at = x.length();
                x.add(7, 1, 0, at + 2);
                x.add(11, 0, 0, 0);
                x.add(12, 0, 0, 0);
                boolean mayBe0 = (signs & Z) != 0;
                Due.fact(x, at + 2, 1, mayBe0 ? 32 : BAD, 0, mayBe0 ? Z : 0);
            }
        }
        // By signs alone, with no bits known of the other.
        result(4, Maker.withSigns(ALL), n(0), 32, 0, Z);
        result(4, n(0), Maker.withSigns(ALL), 32, 0, Z);
        result(5, n(0), Maker.withSigns(M | P), 32, 0, Z);
        result(5, n(0), Maker.withSigns(ALL), 32, 0, Z);
    }

    private static void noSignIsNone() {
        Due.by("Terms: A fact of which S would have nothing tells no int: it is NONE");
        for (int number : new int[] {MIN, -1, 0, 1, MAX}) {
            FactFlow x = new FactFlow();
            x.add(0, 1, 0, number);
            x.add(7, 1, 0, 3);
            x.add(11, 0, 0, 0);
            x.add(12, 0, 0, 0);
            Due.is("IFZERO " + number + ", next", x.reached(2), number != 0);
            Due.is("IFZERO " + number + ", target", x.reached(3), number == 0);
            x.put(1, 8, 1, 0, 3);
            Due.is("IFNEG " + number + ", next", x.reached(2), number >= 0);
            Due.is("IFNEG " + number + ", target", x.reached(3), number < 0);
            x.put(1, 5, 0, 0, 1);
            Due.is("DIV by " + number, x.reached(2), number != 0);
        }
        // One last bit that is 1 is enough against ZERO.
        FactFlow y = new FactFlow();
        Maker.oneOf(y, 1, -1, 1);
        y.add(7, 1, 0, 6);
        y.add(11, 0, 0, 0);
        y.add(12, 0, 0, 0);
        Due.is("IFZERO of an odd one", y.reached(6), false);
        FactFlow z = new FactFlow();
        Maker.oneOf(z, 1, -2, 0);
        z.add(7, 1, 0, 6);
        z.add(11, 0, 0, 0);
        z.add(12, 0, 0, 0);
        Due.is("IFZERO of an even one", z.reached(6), true);
    }

    private static void joinKnowsWhatBothKnow() {
        Due.by("Terms: TO JOIN two facts: as many last bits as both know and agree in");
        // First two that agree in k bits, then a third that agrees in fewer, as many, more, or all with one.
        known(n(5, 5 + 256, 5 + 16), 4, 5, P);
        known(n(5, 5 + 256, 5 + 128), 7, 5, P);
        known(n(5, 5 + 256, 5 + 256), 8, 5, P);
        known(n(5, 5 + 256, 5 + 512), 8, 5, P);
        known(n(5, 5 + 256, 5), 8, 5, P);
        known(n(5, 5 + 256, 4), 0, 0, P);
        known(n(5, 5 + 65536, 5), 16, 5, P);
        known(n(5, 5 + 65536, 5 + 65536), 16, 5, P);
        known(n(5, 5 + 65536, 5 + 32768), 15, 5, P);
        known(n(5, 5 + 65536, 5 + 131072), 16, 5, P);
        known(n(5, 5, 5), 32, 5, P);
        known(n(5, 5, 5 + 65536), 16, 5, P);
        known(n(0, 0, MIN), 16, 0, M | Z);
        known(n(-1, MAX, 65535), 16, 65535, M | P);
        known(n(-1, 1), 1, 1, M | P);
        known(n(-1, 0), 0, 0, M | Z);
    }

    private static void joinOfSigns() {
        Due.by("Terms: TO JOIN .. and the signs of both");
        for (int signs = 1; signs <= 7; signs++) {
            known(Maker.withSigns(signs), signs == Z ? 32 : 0, 0, signs);
            known(Maker.sixteens(signs), signs == Z ? 32 : 4, 0, signs);
        }
    }

    private static void stateIsNoneWhenOneFactIs() {
        Due.by("Terms: A STATE is a fact for each variable; it is NONE when one of them is");
        for (int one = 0; one < 4; one++) {
            FactFlow x = new FactFlow();
            x.add(0, one, 0, 6);
            x.add(7, one, 0, 3);
            x.add(11, 0, 0, 0);
            x.add(12, 0, 0, 0);
            Due.is("reached(3)", x.reached(3), false);
            for (int v = 0; v < 4; v++) {
                Due.fact(x, 2, v, 32, v == one ? 6 : 0, v == one ? P : Z);
                Due.fact(x, 3, v, BAD, 0, 0);
            }
        }
    }

    private static void joinedWithNoneStays() {
        Due.by("Terms: joined with NONE a state stays as it is");
        FactFlow x = new FactFlow();
        x.add(0, 1, 0, 6);
        x.add(7, 1, 0, 4);
        x.add(0, 2, 0, -3);
        x.add(8, 1, 0, 0);
        x.add(12, 0, 0, 0);
        x.add(11, 0, 0, 0);
        x.add(0, 2, 0, 9);
        x.add(9, 0, 0, 4);
        // The jumps to 4 and 0 bring nothing, nor does what isn't reached.
        Due.fact(x, 4, 2, 32, -3, M);
        Due.fact(x, 4, 1, 32, 6, P);
        Due.fact(x, 0, 1, 32, 0, Z);
        Due.fact(x, 0, 2, 32, 0, Z);
        // When they may be taken, they bring what they have.
        x.put(0, 6, 1, 0, 0);
        Due.fact(x, 4, 2, 0, 0, M | Z);
        Due.fact(x, 0, 2, 0, 0, M | Z);
        Due.fact(x, 0, 1, 0, 0, M | Z);
    }

    private static void sumsKnowTheLesser() {
        Due.by("Terms: x + y, x - y: the lesser of k and l bits, by r + q, r - q");
        int[] bits = {0, 1, 15, 16, 32};
        for (int k : bits) {
            for (int l : bits) {
                int least = k < l ? k : l;
                int[] xs = k == 32 ? n(7) : n(7, 7 + (1 << k));
                int[] ys = l == 32 ? n(2) : n(2, 2 + (1 << l));
                int mask = least == 32 ? -1 : (1 << least) - 1;
                int signs = least == 32 ? P : M | P;
                result(2, xs, ys, least, 9 & mask, signs);
                result(3, xs, ys, least, 5 & mask, least == 0 ? ALL : signs);
            }
        }
    }

    private static void sumsWrapInTheirBits() {
        Due.by("Terms: are those of a number r (0 .. 2^k - 1); x + y, x - y: by r + q, r - q");
        result(2, n(14, 30), n(1), 4, 15, M | P);
        result(2, n(15, 31), n(1), 4, 0, M | P);
        result(2, n(15, 31), n(2), 4, 1, M | P);
        result(2, n(15, 31), n(15, 31), 4, 14, M | P);
        result(3, n(1, 17), n(1), 4, 0, ALL);
        result(3, n(0, 16), n(1), 4, 15, M | P);
        result(3, n(0, 16), n(15, 31), 4, 1, M | P);
        result(2, n(65535, 65535 + 65536), n(1), 16, 0, M | P);
        result(2, n(65534, 65534 + 65536), n(1), 16, 65535, M | P);
        result(3, n(0, 65536), n(1), 16, 65535, M | P);
        result(3, n(1, 65537), n(1), 16, 0, ALL);
    }

    private static void sumsOfNumbersWrap() {
        Due.by("Terms: ints (which wrap); x + y, x - y: by r + q, r - q (any int for k = 32)");
        result(2, n(MAX - 1), n(1), 32, MAX, P);
        result(2, n(MAX), n(1), 32, MIN, M);
        result(2, n(MIN), n(-1), 32, MAX, P);
        result(2, n(MIN), n(MIN), 32, 0, Z);
        result(3, n(MIN + 1), n(1), 32, MIN, M);
        result(3, n(MIN), n(1), 32, MAX, P);
        result(3, n(MAX), n(-1), 32, MIN, M);
        result(3, n(0), n(MIN), 32, MIN, M);
        result(3, n(0), n(MIN + 1), 32, MAX, P);
    }

    private static void productsByTheLeastOfThree() {
        Due.by("Terms: x y: min(k + z(q), l + z(r), k + l) bits by r q");
        // k = 1, r = 1; l = 1, q = 1: 1, 1, 2.
        result(4, n(1, 3), n(1, 3), 1, 1, M | P);
        // k = 3, r = 4; l = 6, q = 2: 4, 8, 9.
        result(4, n(4, 12), n(2, 66), 4, 8, M | P);
        result(4, n(2, 66), n(4, 12), 4, 8, M | P);
        // k = 3, r = 4; l = 4, q = 4: 5, 6, 7; then l = 3: 5, 5, 6; and l = 2, q = 0: 35, 4, 5.
        result(4, n(4, 12), n(4, 20), 5, 16, M | P);
        result(4, n(4, 12), n(4, 12), 5, 16, M | P);
        result(4, n(4, 12), n(4, 8), 4, 0, ALL);
        result(4, n(4, 8), n(4, 12), 4, 0, ALL);
        // k = 2, r = 0; l = 3, q = 0: 34, 35, 5.
        result(4, n(4, 8), n(8, 16), 5, 0, ALL);
        // A number by k = 3: 32 + .., 3 + z(r), 35.
        result(4, n(1), n(5, 13), 3, 5, M | P);
        result(4, n(2), n(5, 13), 4, 10, M | P);
        result(4, n(3), n(5, 13), 3, 7, M | P);
        result(4, n(12), n(5, 13), 5, 28, M | P);
        result(4, n(-1), n(5, 13), 3, 3, M | P);
    }

    private static void productsAtTheEdgesOf16And32() {
        Due.by("Terms: 32 when that is 32 or more, and 16 when it lies between");
        // k = 15, r = 3, by the numbers 2^j: 15 + j.
        int[] odd = n(3, 3 + 32768);
        int[][] due = {{0, 15, 3, M | P}, {1, 16, 6, M | P}, {2, 16, 12, M | P}, {15, 16, 32768, M | P},
            {16, 16, 0, ALL}, {17, 32, 3 << 17, P}, {18, 32, 3 << 18, P}, {30, 32, 3 << 30, M}, {31, 32, MIN, M}};
        for (int[] row : due) {
            result(4, odd, n(1 << row[0]), row[1], row[2], row[3]);
            result(4, n(1 << row[0]), odd, row[1], row[2], row[3]);
        }
        // k = 16: 16 + j.
        int[] more = n(3, 3 + 65536);
        result(4, more, n(1), 16, 3, M | P);
        result(4, more, n(32768), 16, 32768, M | P);
        result(4, more, n(65536), 32, 3 << 16, P);
        result(4, more, n(-65536), 32, -3 << 16, M);
        // r and q are 0: k + l.
        int[][] sums = {{7, 8, 15}, {8, 8, 16}, {8, 9, 16}, {15, 16, 16}, {0, 16, 16}, {0, 15, 15}, {0, 0, 0}};
        for (int[] row : sums) {
            result(4, n(0, 1 << row[0]), n(0, 1 << row[1]), row[2], 0, ALL);
            result(4, n(0, 1 << row[1]), n(0, 1 << row[0]), row[2], 0, ALL);
        }
        result(4, n(0, 65536), n(0, 65536), 32, 0, Z);
        result(4, n(65536, 131072), n(65536, 131072), 32, 0, Z);
    }

    private static void productsOfUnknownByZeros() {
        Due.by("Terms: where z is the number of last bits that are 0 (32 for 0)");
        int[] unknown = Maker.withSigns(ALL);
        int[][] due = {{1, 0}, {2, 1}, {3, 0}, {6, 1}, {-1, 0}, {-8, 3}, {1 << 15, 15}, {1 << 16, 16}, {1 << 17, 16},
            {1 << 30, 16}, {MIN, 16}};
        for (int[] row : due) {
            result(4, unknown, n(row[0]), row[1], 0, ALL);
            result(4, n(row[0]), unknown, row[1], 0, ALL);
        }
        result(4, unknown, n(0), 32, 0, Z);
        // One known bit by the least int, whose 31 last bits are 0.
        result(4, n(0, 2), n(MIN), 32, 0, Z);
        result(4, n(1, 3), n(MIN), 32, MIN, M);
        result(4, n(1, 3), n(1 << 30), 16, 0, ALL);
    }

    private static void productsOfNumbersWrap() {
        Due.by("Terms: ints (which wrap); x y: by r q");
        result(4, n(46340), n(46340), 32, 2147395600, P);
        result(4, n(46341), n(46341), 32, -2147479015, M);
        result(4, n(32768), n(65536), 32, MIN, M);
        result(4, n(65535), n(65537), 32, -1, M);
        result(4, n(65536), n(65536), 32, 0, Z);
        result(4, n(MIN), n(-1), 32, MIN, M);
        result(4, n(MAX), n(MAX), 32, 1, P);
    }

    private static void quotientsKnowAllOrNothing() {
        Due.by("Terms: x / y: 32 bits when k and l are 32, else none");
        result(5, n(12), n(4), 32, 3, P);
        result(5, n(65536, 131072), n(4), 0, 0, Z | P);
        result(5, n(12), n(65536, 131072), 0, 0, Z | P);
        result(5, n(65536, 131072), n(65536, 131072), 0, 0, Z | P);
        result(5, n(5, 5 + 65536), n(1), 0, 0, Z | P);
        result(5, n(5, 5), n(1), 32, 5, P);
    }

    private static void quotientsOfNumbers() {
        Due.by("Terms: b / c, towards 0 (the least int by -1 is itself); x / y");
        result(5, n(7), n(2), 32, 3, P);
        result(5, n(-7), n(2), 32, -3, M);
        result(5, n(7), n(-2), 32, -3, M);
        result(5, n(-1), n(2), 32, 0, Z);
        result(5, n(MIN), n(-1), 32, MIN, M);
        result(5, n(MIN + 1), n(-1), 32, MAX, P);
        result(5, n(MIN), n(1), 32, MIN, M);
        result(5, n(MIN), n(MIN), 32, 1, P);
        result(5, n(MAX), n(MIN), 32, 0, Z);
    }

    private static int pairs(int operation, int xSigns, int ySigns) {
        int all = 0;
        for (int x = 0; x < 3; x++) {
            for (int y = 0; y < 3; y++) {
                if ((xSigns & 1 << x) != 0 && (ySigns & 1 << y) != 0) {
                    all |= SIGNS[operation - 2][x][y];
                }
            }
        }
        return all;
    }

    private static void signsOfAllPairs() {
        Due.by("Terms: Signs are all that some pair of signs in both sets gives");
        for (int operation = 2; operation <= 5; operation++) {
            for (int xSigns = 1; xSigns <= 7; xSigns++) {
                for (int ySigns = 1; ySigns <= 7; ySigns++) {
                    int signs = pairs(operation, xSigns, ySigns);
                    int bits = signs == 0 ? BAD : signs == Z ? 32 : 0;
                    result(operation, Maker.withSigns(xSigns), Maker.withSigns(ySigns), bits, 0, signs);
                }
            }
        }
    }

    private static void comesOfSet() {
        Due.by("Terms: for 0 the fact of c (32 bits) for a");
        FactFlow x = new FactFlow();
        x.add(6, 2, 0, 0);
        x.add(0, 2, 0, MIN);
        x.add(0, 2, 0, 0);
        x.add(0, 2, 0, MAX);
        x.add(12, 0, 0, 0);
        Due.fact(x, 1, 2, 0, 0, ALL);
        Due.fact(x, 2, 2, 32, MIN, M);
        Due.fact(x, 3, 2, 32, 0, Z);
        Due.fact(x, 4, 2, 32, MAX, P);
        Due.fact(x, 4, 1, 32, 0, Z);
    }

    private static void comesOfCopy() {
        Due.by("Terms: for 1 that of b");
        for (int signs = 1; signs <= 7; signs++) {
            FactFlow x = new FactFlow();
            Maker.oneOf(x, 1, Maker.sixteens(signs));
            int at = x.length();
            x.add(1, 0, 1, 0);
            x.add(1, 1, 1, 0);
            x.add(12, 0, 0, 0);
            Due.fact(x, at + 1, 0, signs == Z ? 32 : 4, 0, signs);
            Due.fact(x, at + 2, 1, signs == Z ? 32 : 4, 0, signs);
        }
    }

    private static void comesOfRead() {
        Due.by("Terms: for 6 no bits and all signs");
        FactFlow x = new FactFlow();
        x.add(0, 1, 0, 5);
        x.add(6, 1, 0, 0);
        x.add(12, 0, 0, 0);
        Due.fact(x, 1, 1, 32, 5, P);
        Due.fact(x, 2, 1, 0, 0, ALL);
        Due.fact(x, 2, 0, 32, 0, Z);
        // Whatever inputs there are.
        x.input(5);
        Due.fact(x, 2, 1, 0, 0, ALL);
    }

    private static void divisionTakesZeroAway() {
        Due.by("Terms: for 5 in a state where c has no ZERO (reduced; NONE when nothing is left)");
        for (int signs = 1; signs <= 7; signs++) {
            FactFlow x = new FactFlow();
            Maker.oneOf(x, 1, Maker.sixteens(signs));
            int at = x.length();
            x.add(0, 0, 0, 6);
            x.add(5, 2, 0, 1);
            x.add(12, 0, 0, 0);
            int left = signs & ~Z;
            Due.is("reached", x.reached(at + 2), left != 0);
            Due.fact(x, at + 1, 1, signs == Z ? 32 : 4, 0, signs);
            Due.fact(x, at + 2, 1, left == 0 ? BAD : 4, 0, left);
            Due.fact(x, at + 2, 0, left == 0 ? BAD : 32, left == 0 ? 0 : 6, left == 0 ? 0 : P);
            Due.fact(x, at + 2, 2, left == 0 ? BAD : 0, 0, left == 0 ? 0 : pairs(5, P, left));
        }
    }

    private static void divisionInItsOwnPlace() {
        Due.by("Terms: for 2 to 5 the result for a, for 5 in a state where c has no ZERO");
        FactFlow x = new FactFlow();
        Maker.oneOf(x, 1, Maker.withSigns(Z | P));
        int at = x.length();
        // b and c are the same, so it is PLUS by PLUS.
        x.add(5, 0, 1, 1);
        x.add(12, 0, 0, 0);
        Due.fact(x, at + 1, 0, 0, 0, Z | P);
        Due.fact(x, at + 1, 1, 0, 0, P);
        // a is c: it has the result, not what is left of the divisor.
        x.put(at, 5, 1, 0, 1);
        Due.fact(x, at + 1, 1, 32, 0, Z);
        x.put(at, 5, 1, 1, 1);
        Due.fact(x, at + 1, 1, 0, 0, Z | P);
    }

    /** The way to the target is at + 2, the way to the next one at + 1. */
    private static void ways(int operation, int[] numbers, int bits, int jumping, int passing) {
        FactFlow x = new FactFlow();
        Maker.oneOf(x, 1, numbers);
        int at = x.length();
        x.add(operation, 1, 0, at + 2);
        x.add(11, 0, 0, 0);
        x.add(12, 0, 0, 0);
        Due.is("reached, target", x.reached(at + 2), jumping != 0);
        Due.is("reached, next", x.reached(at + 1), passing != 0);
        Due.fact(x, at + 2, 1, jumping == 0 ? BAD : jumping == Z ? 32 : bits, 0, jumping);
        Due.fact(x, at + 1, 1, passing == 0 ? BAD : passing == Z ? 32 : bits, 0, passing);
    }

    private static void comesOfIfZero() {
        Due.by("Terms: for 7 to the target with only ZERO for a, and to the next with all but ZERO; each reduced");
        for (int signs = 1; signs <= 7; signs++) {
            ways(7, Maker.withSigns(signs), 0, signs & Z, signs & (M | P));
            ways(7, Maker.sixteens(signs), 4, signs & Z, signs & (M | P));
        }
    }

    private static void comesOfIfNeg() {
        Due.by("Terms: for 8 likewise with only MINUS, and with all but MINUS; each reduced");
        for (int signs = 1; signs <= 7; signs++) {
            ways(8, Maker.withSigns(signs), 0, signs & M, signs & (Z | P));
            ways(8, Maker.sixteens(signs), 4, signs & M, signs & (Z | P));
        }
    }

    private static void waysToOnePlace() {
        Due.by("Terms: each one's tells all that comes to it");
        for (int operation : new int[] {7, 8}) {
            FactFlow x = new FactFlow();
            Maker.oneOf(x, 1, Maker.sixteens(ALL));
            int at = x.length();
            x.add(operation, 1, 0, at + 1);
            x.add(12, 0, 0, 0);
            Due.fact(x, at + 1, 1, 4, 0, ALL);
            // A way to itself brings it nothing new.
            x.put(at, operation, 1, 0, at);
            Due.fact(x, at, 1, 4, 0, ALL);
            Due.fact(x, at + 1, 1, 4, 0, operation == 7 ? M | P : Z | P);
        }
        FactFlow y = new FactFlow();
        y.add(9, 0, 0, 0);
        y.add(12, 0, 0, 0);
        Due.fact(y, 0, 1, 32, 0, Z);
        Due.is("reached behind", y.reached(1), false);
    }

    private static void comesOfGotoAndStop() {
        Due.by("Terms: for 9 to the target alone; for 11 nothing");
        for (int target = 0; target <= 24; target++) {
            FactFlow x = Maker.skips(4);
            x.put(0, 9, 0, 0, target);
            x.put(3, 11, 0, 0, 0);
            for (int i = 1; i < 4; i++) {
                Due.is("reached(" + i + ") by " + target, x.reached(i), target > 0 && i >= target);
            }
        }
        FactFlow y = Maker.skips(24);
        for (int i = 23; i >= 0; i--) {
            y.put(i, 11, 0, 0, 0);
            Due.is("reached the STOP", y.reached(i), true);
            Due.is("reached behind it", y.reached(i + 1), false);
        }
    }

    private static void comesOfPrintAndSkip() {
        Due.by("Terms: else the state itself. All others go to the next instruction");
        for (int operation : new int[] {10, 12}) {
            FactFlow x = new FactFlow();
            Maker.oneOf(x, 1, Maker.sixteens(M | P));
            int at = x.length();
            x.add(operation, 1, 0, 0);
            x.add(12, 0, 0, 0);
            Due.fact(x, at + 1, 1, 4, 0, M | P);
            Due.fact(x, at + 1, 0, 32, 0, Z);
        }
    }

    private static void waysThatLeadBehindTheLast() {
        Due.by("Terms: Going to an instruction that is not there (behind the last one) ends the run");
        for (int operation : new int[] {7, 8, 9}) {
            FactFlow x = new FactFlow();
            x.add(6, 1, 0, 0);
            x.add(operation, 1, 0, 3);
            x.add(11, 0, 0, 0);
            Due.is("reached(3)", x.reached(3), false);
            Due.fact(x, 3, 1, BAD, 0, 0);
            // It is come to as soon as it is there.
            x.add(12, 0, 0, 0);
            Due.is("reached(3)", x.reached(3), true);
            Due.fact(x, 3, 1, operation == 7 ? 32 : 0, 0, operation == 7 ? Z : operation == 8 ? M : ALL);
        }
        FactFlow y = Maker.skips(24);
        y.put(0, 9, 0, 0, 24);
        for (int i = 0; i <= 24; i++) {
            Due.is("reached(" + i + ")", y.reached(i), i == 0);
        }
        y.put(0, 9, 0, 0, 23);
        Due.is("reached(22)", y.reached(22), false);
        Due.is("reached(23)", y.reached(23), true);
        Due.is("reached(24)", y.reached(24), false);
    }

    private static void firstTells0() {
        Due.by("Terms: the first one's tells 0 of all variables, and each one's tells all that comes to it");
        for (int length : new int[] {1, 24}) {
            FactFlow x = Maker.skips(length);
            for (int v = 0; v < 4; v++) {
                Due.fact(x, 0, v, 32, 0, Z);
                Due.fact(x, length - 1, v, 32, 0, Z);
            }
        }
        // Even when all that comes back to it is another number.
        FactFlow y = Maker.skips(24);
        y.put(22, 0, 1, 0, 65536);
        y.put(23, 9, 0, 0, 0);
        Due.fact(y, 0, 1, 16, 0, Z | P);
        Due.fact(y, 22, 1, 16, 0, Z | P);
        Due.fact(y, 23, 1, 32, 65536, P);
        y.put(23, 9, 0, 0, 24);
        Due.fact(y, 0, 1, 32, 0, Z);
        // Of each variable, and whatever an earlier program brought back to it.
        for (int v = 0; v < 4; v++) {
            FactFlow z = new FactFlow();
            z.add(6, v, 0, 0);
            z.add(9, 0, 0, 0);
            Due.fact(z, 0, v, 0, 0, ALL);
            z.put(1, 12, 0, 0, 0);
            Due.fact(z, 0, v, 32, 0, Z);
        }
    }

    private static void leastOfLoops() {
        Due.by("Terms: the least ones (that tell fewest ints); REACHED when its state is not NONE");
        // A loop that nothing leads into would uphold itself, but is not reached.
        FactFlow x = Maker.skips(5);
        x.put(0, 9, 0, 0, 4);
        x.put(3, 9, 0, 0, 1);
        for (int i = 0; i < 5; i++) {
            Due.is("reached(" + i + ")", x.reached(i), i == 0 || i == 4);
        }
        // A copy that goes round stays the number that it is.
        FactFlow y = new FactFlow();
        y.add(0, 1, 0, 5);
        y.add(1, 2, 1, 0);
        y.add(1, 1, 2, 0);
        y.add(6, 0, 0, 0);
        y.add(7, 0, 0, 1);
        y.add(12, 0, 0, 0);
        Due.fact(y, 1, 1, 32, 5, P);
        Due.fact(y, 1, 2, 0, 0, Z | P);
        Due.fact(y, 5, 2, 32, 5, P);
    }

    private static void farWaysBack() {
        Due.by("Terms: the least ones such that .. each one's tells all that comes to it");
        // From 2 to 21, and from there back by two at a time, doubling: the way goes against all numbers.
        FactFlow x = new FactFlow();
        x.add(0, 2, 0, 2);
        x.add(0, 1, 0, 1);
        x.add(9, 0, 0, 21);
        for (int i = 3; i <= 21; i += 2) {
            x.add(4, 1, 1, 2);
            x.add(9, 0, 0, i == 3 ? 23 : i - 2);
        }
        x.add(10, 1, 0, 0);
        for (int i = 3; i <= 21; i += 2) {
            Due.fact(x, i, 1, 32, 1 << (21 - i) / 2, P);
        }
        Due.fact(x, 23, 1, 32, 1024, P);
        // When it goes round, each doubling makes one more last bit 0.
        x.put(4, 9, 0, 0, 21);
        for (int i = 3; i <= 21; i += 2) {
            Due.fact(x, i, 1, (21 - i) / 2, 0, ALL);
        }
        Due.fact(x, 4, 1, 10, 0, ALL);
        Due.is("reached(23)", x.reached(23), false);
    }

    private static void signsThatGrowInAllVariables() {
        Due.by("Terms: the least ones such that .. each one's tells all that comes to it");
        // All four are PLUS behind 11; each is then added to itself, round and round.
        FactFlow x = new FactFlow();
        for (int v = 0; v < 4; v++) {
            x.add(6, v, 0, 0);
            x.add(7, v, 0, 3 * v);
            x.add(8, v, 0, 3 * v);
        }
        for (int v = 0; v < 4; v++) {
            x.add(2, v, v, v);
        }
        for (int v = 0; v < 4; v++) {
            Due.fact(x, 12, v, 0, 0, P);
        }
        // PLUS and PLUS: MINUS, PLUS; and of these all three come.
        x.add(9, 0, 0, 12);
        for (int v = 0; v < 4; v++) {
            Due.fact(x, 12, v, 0, 0, ALL);
        }
    }

    private static void setAll(FactFlow x, int number) {
        for (int v = 0; v < 4; v++) {
            x.add(0, v, 0, number);
        }
    }

    private static void allVariablesChangeAtOnce() {
        Due.by("Terms: To join states is to join all their facts; each one's tells all that comes to it");
        // To 19 come 16 from 18, then 48 from 10 by a way that goes back once, then -16 from 5 by one that does twice.
        FactFlow x = new FactFlow();
        x.add(9, 0, 0, 12);
        setAll(x, -16);
        x.add(9, 0, 0, 19);
        setAll(x, 48);
        x.add(9, 0, 0, 19);
        x.add(9, 0, 0, 1);
        x.add(6, 3, 0, 0);
        x.add(7, 3, 0, 6);
        x.add(8, 3, 0, 11);
        setAll(x, 16);
        x.add(12, 0, 0, 0);
        x.add(12, 0, 0, 0);
        for (int v = 0; v < 4; v++) {
            // -16 brings nothing but another sign: the bits agree.
            Due.fact(x, 19, v, 5, 16, M | P);
            Due.fact(x, 20, v, 5, 16, M | P);
        }
        x.put(14, 12, 0, 0, 0);
        for (int v = 0; v < 4; v++) {
            // 48 brings nothing but fewer bits: the sign agrees.
            Due.fact(x, 19, v, 5, 16, P);
            Due.fact(x, 20, v, 5, 16, P);
        }
    }

    private static void eachCallFindsTheFacts() {
        Due.by("Promises 7 to 10: whichever of them is called first");
        for (int call = 0; call < 4; call++) {
            FactFlow x = new FactFlow();
            x.add(0, 1, 0, 5);
            x.add(12, 0, 0, 0);
            Due.is("call " + call, ask(x, call), new int[] {1, 32, 5, P}[call]);
            x.put(0, 6, 1, 0, 0);
            Due.is("call " + call, ask(x, call), new int[] {1, 0, 0, ALL}[call]);
            x.put(0, 11, 0, 0, 0);
            Due.is("call " + call, ask(x, call), new int[] {0, BAD, 0, 0}[call]);
            x.clear();
            x.add(0, 1, 0, -1);
            Due.is("call " + call, ask(x, call), new int[] {0, BAD, 0, 0}[call]);
            x.add(12, 0, 0, 0);
            Due.is("call " + call, ask(x, call), new int[] {1, 32, -1, M}[call]);
        }
    }

    private static int ask(FactFlow x, int call) {
        switch (call) {
            case 0:
                return x.reached(1) ? 1 : 0;
            case 1:
                return x.bits(1, 1);
            case 2:
                return x.rest(1, 1);
            default:
                return x.signs(1, 1);
        }
    }

    private static void factsFollowTheProgram() {
        Due.by("Promises 7 to 10: before an instruction (of the program as it is)");
        FactFlow x = new FactFlow();
        Due.is("reached(0)", x.reached(0), false);
        x.add(0, 1, 0, 5);
        Due.is("reached(0)", x.reached(0), true);
        Due.is("reached(1)", x.reached(1), false);
        x.add(12, 0, 0, 0);
        Due.fact(x, 1, 1, 32, 5, P);
        x.put(0, 0, 1, 0, -5);
        Due.fact(x, 1, 1, 32, -5, M);
        x.put(0, 13, 1, 0, 7);
        Due.fact(x, 1, 1, 32, -5, M);
        x.add(12, 4, 0, 25);
        x.add(9, 0, 0, 25);
        Due.fact(x, 2, 1, 32, -5, M);
        Due.is("reached(3)", x.reached(3), false);
        x.run(2);
        x.input(3);
        x.dry();
        Due.fact(x, 1, 1, 32, -5, M);
        x.clear();
        Due.is("reached(0)", x.reached(0), false);
        Due.fact(x, 1, 1, BAD, 0, 0);
        x.add(12, 0, 0, 0);
        x.add(12, 0, 0, 0);
        Due.fact(x, 1, 1, 32, 0, Z);
    }
}
