import java.util.Random;

/**
 * What needs no model: wherever a run comes to, the facts tell the variables it has there; and a
 * rewritten program runs as the one before.
 */
public final class TruthTest {
    private static final int[] NUMBERS = {0, 1, -1, 2, 3, 8, 32768, 65536, 1 << 30, Integer.MAX_VALUE,
        Integer.MIN_VALUE};

    public static void main(String[] args) {
        Random random = new Random(7);
        for (int round = 0; round < 1500; round++) {
            FactFlow x = new FactFlow();
            int length = 2 + random.nextInt(22);
            for (int i = 0; i < length; i++) {
                int operation = random.nextInt(12);
                int c = operation == 0 ? NUMBERS[random.nextInt(NUMBERS.length)]
                        : operation >= 7 ? random.nextInt(length + 1) : random.nextInt(4);
                x.add(operation == 11 ? 12 : operation, random.nextInt(4), random.nextInt(4), c);
            }
            for (int k = 0; k < 16; k++) {
                x.input(random.nextBoolean() ? random.nextInt() : NUMBERS[random.nextInt(NUMBERS.length)]);
            }
            factsAreTrue(x);
            rewrittenRunsTheSame(x);
            factsAreTrue(x);
        }
        Due.end();
    }

    private static void factsAreTrue(FactFlow x) {
        for (int steps = 0; steps <= 80; steps++) {
            if (x.run(steps) == 1) {
                return;
            }
            int i = x.next();
            Due.is("reached(" + i + ")", x.reached(i), true);
            for (int v = 0; v < 4; v++) {
                int value = x.variable(v);
                int bits = x.bits(i, v);
                int mask = bits == 32 ? -1 : (1 << bits) - 1;
                int sign = value < 0 ? FactFlow.MINUS : value == 0 ? FactFlow.ZERO : FactFlow.PLUS;
                Due.is("bits of " + value, value & mask, x.rest(i, v));
                Due.is("sign of " + value, x.signs(i, v) & sign, sign);
                isReduced(bits, x.rest(i, v), x.signs(i, v));
            }
        }
    }

    private static void isReduced(int bits, int rest, int signs) {
        Due.is("number of bits", bits == 32 || bits >= 0 && bits <= 16, true);
        Due.is("size of rest", bits == 32 || rest >= 0 && rest < 1 << bits, true);
        if (bits == 32) {
            Due.is("signs of a number", signs, rest < 0 ? FactFlow.MINUS : rest == 0 ? FactFlow.ZERO : FactFlow.PLUS);
        }
        Due.is("ZERO only when the rest is", (signs & FactFlow.ZERO) == 0 || rest == 0, true);
        Due.is("just ZERO is a number", signs != FactFlow.ZERO || bits == 32, true);
    }

    private static long told(FactFlow x, int steps) {
        long sum = x.run(steps);
        sum = 31 * sum + x.steps();
        sum = 31 * sum + x.next();
        for (int v = 0; v < 4; v++) {
            sum = 31 * sum + x.variable(v);
        }
        sum = 31 * sum + x.outputs();
        for (int k = 0; k < 40; k++) {
            sum = 31 * sum + x.output(k);
        }
        return sum;
    }

    private static void rewrittenRunsTheSame(FactFlow x) {
        long before = told(x, 2000);
        long shortBefore = told(x, 17);
        x.rewrite();
        Due.is("rewrite again", x.rewrite(), 0);
        Due.is("what a run tells", told(x, 2000), before);
        Due.is("what a short run tells", told(x, 17), shortBefore);
    }
}
