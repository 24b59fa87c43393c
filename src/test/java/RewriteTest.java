/** Promise 11: rewrite. */
public final class RewriteTest {
    private static final int MIN = Integer.MIN_VALUE;

    public static void main(String[] args) {
        nothingToRewrite();
        notReachedBecomesStop();
        knownResultsBecomeSet();
        unknownResultsStay();
        divisions();
        ifZero();
        ifNeg();
        bothWaysToOnePlace();
        otherOperationsStay();
        byTheStatesBefore();
        resultInItsOwnPlace();
        lastOfAFullProgram();
        Due.end();
    }

    private static void nothingToRewrite() {
        FactFlow x = new FactFlow();
        Due.is("without program", x.rewrite(), 0);
        x.add(0, 0, 0, 5);
        x.add(10, 0, 0, 0);
        x.add(11, 0, 0, 0);
        x.add(11, 0, 0, 0);
        // A STOP that isn't reached is no other instruction then.
        Due.is("rewrite", x.rewrite(), 0);
        Due.code(x, 0, 0, 0, 0, 5);
        Due.code(x, 1, 10, 0, 0, 0);
        Due.code(x, 3, 11, 0, 0, 0);
    }

    private static void notReachedBecomesStop() {
        for (int operation = 0; operation <= 12; operation++) {
            FactFlow x = new FactFlow();
            x.add(9, 0, 0, 2);
            x.add(operation, 3, 3, 3);
            x.add(12, 0, 0, 0);
            Due.is("rewrite of " + operation, x.rewrite(), operation == 11 ? 0 : 1);
            Due.code(x, 0, 9, 0, 0, 2);
            Due.code(x, 1, 11, 0, 0, 0);
            Due.code(x, 2, 12, 0, 0, 0);
            Due.is("again", x.rewrite(), 0);
        }
    }

    private static void known(int operation, int p, int q, int due) {
        FactFlow x = new FactFlow();
        x.add(0, 1, 0, p);
        x.add(0, 2, 0, q);
        x.add(operation, 3, 1, 2);
        Due.is("rewrite", x.rewrite(), 1);
        Due.code(x, 0, 0, 1, 0, p);
        Due.code(x, 1, 0, 2, 0, q);
        Due.code(x, 2, 0, 3, 0, due);
        Due.is("again", x.rewrite(), 0);
    }

    private static void knownResultsBecomeSet() {
        known(1, -9, 5, -9);
        known(2, Integer.MAX_VALUE, 1, MIN);
        known(3, 3, 5, -2);
        known(4, -3, 5, -15);
        known(5, -7, 2, -3);
        known(5, MIN, -1, MIN);
        known(5, 1, 2, 0);
        known(4, 65536, 65536, 0);
    }

    private static void unknownResultsStay() {
        FactFlow x = new FactFlow();
        x.add(6, 1, 0, 0);
        x.add(0, 2, 0, 8);
        x.add(1, 0, 1, 0);
        x.add(2, 0, 1, 2);
        x.add(3, 0, 2, 1);
        x.add(4, 0, 1, 2);
        x.add(5, 0, 1, 2);
        x.add(3, 0, 1, 1);
        Due.is("rewrite", x.rewrite(), 0);
        Due.code(x, 2, 1, 0, 1, 0);
        Due.code(x, 6, 5, 0, 1, 2);
        Due.code(x, 7, 3, 0, 1, 1);
        // By 0 all is known of a product, though nothing of the other one.
        x.put(1, 0, 2, 0, 0);
        x.put(6, 12, 0, 0, 0);
        Due.is("rewrite", x.rewrite(), 1);
        Due.code(x, 5, 0, 0, 0, 0);
    }

    private static void divisions() {
        FactFlow x = new FactFlow();
        x.add(6, 1, 0, 0);
        x.add(5, 2, 0, 1);
        x.add(5, 3, 0, 1);
        x.add(12, 0, 0, 0);
        // 0 by what may be 0 can fault; behind that the divisor isn't 0, and the result is known.
        Due.is("rewrite", x.rewrite(), 1);
        Due.code(x, 1, 5, 2, 0, 1);
        Due.code(x, 2, 0, 3, 0, 0);
        // A division that must fault stays.
        FactFlow y = new FactFlow();
        y.add(5, 0, 0, 0);
        y.add(10, 0, 0, 0);
        Due.is("rewrite", y.rewrite(), 1);
        Due.code(y, 0, 5, 0, 0, 0);
        Due.code(y, 1, 11, 0, 0, 0);
        Due.is("run", y.run(5), 2);
    }

    private static void ifZero() {
        FactFlow x = new FactFlow();
        x.add(7, 1, 0, 3);
        x.add(12, 0, 0, 0);
        x.add(12, 0, 0, 0);
        x.add(0, 1, 0, 5);
        x.add(7, 1, 0, 0);
        x.add(6, 1, 0, 0);
        x.add(7, 1, 0, 9);
        x.add(7, 1, 0, 10);
        x.add(12, 0, 0, 0);
        x.add(7, 1, 0, 24);
        Due.is("rewrite", x.rewrite(), 5);
        Due.code(x, 0, 9, 0, 0, 3);
        Due.code(x, 1, 11, 0, 0, 0);
        Due.code(x, 2, 11, 0, 0, 0);
        Due.code(x, 4, 9, 0, 0, 5);
        Due.code(x, 6, 7, 1, 0, 9);
        // Behind the way that isn't 0.
        Due.code(x, 7, 9, 0, 0, 8);
        Due.code(x, 9, 7, 1, 0, 24);
        Due.is("again", x.rewrite(), 0);
    }

    private static void ifNeg() {
        FactFlow x = new FactFlow();
        x.add(8, 2, 0, 5);
        x.add(0, 2, 0, -1);
        x.add(8, 2, 0, 24);
        x.add(12, 0, 0, 0);
        Due.is("rewrite", x.rewrite(), 3);
        Due.code(x, 0, 9, 0, 0, 1);
        Due.code(x, 2, 9, 0, 0, 24);
        Due.code(x, 3, 11, 0, 0, 0);
        FactFlow y = new FactFlow();
        y.add(6, 2, 0, 0);
        y.add(8, 2, 0, 3);
        y.add(8, 2, 0, 0);
        y.add(8, 2, 0, 0);
        y.add(12, 0, 0, 0);
        Due.is("rewrite", y.rewrite(), 1);
        Due.code(y, 1, 8, 2, 0, 3);
        Due.code(y, 2, 9, 0, 0, 3);
        Due.code(y, 3, 8, 2, 0, 0);
    }

    private static void bothWaysToOnePlace() {
        FactFlow x = new FactFlow();
        x.add(6, 0, 0, 0);
        x.add(7, 0, 0, 2);
        x.add(8, 0, 0, 3);
        x.add(12, 0, 0, 0);
        // Two ways come of the state, though they lead to the same place.
        Due.is("rewrite", x.rewrite(), 0);
        Due.code(x, 1, 7, 0, 0, 2);
        Due.code(x, 2, 8, 0, 0, 3);
    }

    private static void otherOperationsStay() {
        FactFlow x = new FactFlow();
        x.add(12, 0, 0, 0);
        x.add(6, 0, 0, 0);
        x.add(10, 1, 0, 0);
        x.add(9, 0, 0, 4);
        x.add(0, 0, 0, 0);
        x.add(11, 0, 0, 0);
        Due.is("rewrite", x.rewrite(), 0);
        Due.code(x, 0, 12, 0, 0, 0);
        Due.code(x, 1, 6, 0, 0, 0);
        Due.code(x, 2, 10, 1, 0, 0);
        Due.code(x, 3, 9, 0, 0, 4);
        Due.code(x, 4, 0, 0, 0, 0);
        Due.code(x, 5, 11, 0, 0, 0);
    }

    private static void byTheStatesBefore() {
        FactFlow x = new FactFlow();
        x.add(0, 0, 0, 3);
        x.add(2, 0, 0, 0);
        x.add(4, 0, 0, 0);
        x.add(1, 1, 0, 0);
        x.add(8, 1, 0, 24);
        x.add(10, 1, 0, 0);
        Due.is("rewrite", x.rewrite(), 4);
        Due.code(x, 1, 0, 0, 0, 6);
        Due.code(x, 2, 0, 0, 0, 36);
        Due.code(x, 3, 0, 1, 0, 36);
        Due.code(x, 4, 9, 0, 0, 5);
        // The facts of the new program.
        Due.fact(x, 5, 1, 32, 36, FactFlow.PLUS);
        Due.is("run", x.run(10), 1);
        Due.is("steps", x.steps(), 6);
        Due.is("output", x.output(0), 36);
    }

    private static void resultInItsOwnPlace() {
        FactFlow x = new FactFlow();
        x.add(0, 1, 0, 9);
        x.add(6, 0, 0, 0);
        x.add(3, 1, 1, 1);
        x.add(4, 0, 0, 1);
        Due.is("rewrite", x.rewrite(), 2);
        Due.code(x, 2, 0, 1, 0, 0);
        Due.code(x, 3, 0, 0, 0, 0);
    }

    private static void lastOfAFullProgram() {
        FactFlow x = new FactFlow();
        for (int i = 0; i < 23; i++) {
            x.add(12, 0, 0, 0);
        }
        x.add(8, 0, 0, 0);
        Due.is("rewrite", x.rewrite(), 1);
        Due.code(x, 23, 9, 0, 0, 24);
        Due.is("run", x.run(2000), 1);
        Due.is("steps", x.steps(), 24);
    }
}
