/** Promises 12 to 19: input, dry, run, steps, next, variable, outputs, output. */
public final class MachineTest {
    private static final int MIN = Integer.MIN_VALUE, MAX = Integer.MAX_VALUE;

    public static void main(String[] args) {
        inputsAreAtMost16();
        dryForgetsInputs();
        eachRunReadsFromTheFirst();
        withoutProgram();
        stepsAreCounted();
        wrongStepsChangeNothing();
        endings();
        faults();
        arithmetic();
        jumps();
        readingWhenDry();
        variables();
        outputsBeyond40();
        aRunForgetsTheOneBefore();
        Due.end();
    }

    private static void inputsAreAtMost16() {
        FactFlow x = new FactFlow();
        for (int k = 0; k < 16; k++) {
            Due.is("input " + k, x.input(100 + k), true);
        }
        Due.is("input 16", x.input(116), false);
        x.add(6, 0, 0, 0);
        x.add(10, 0, 0, 0);
        x.add(9, 0, 0, 0);
        x.run(3 * 18);
        for (int k = 0; k < 18; k++) {
            Due.is("read " + k, x.output(k), k < 16 ? 100 + k : 0);
        }
    }

    private static void dryForgetsInputs() {
        FactFlow x = new FactFlow();
        x.dry();
        x.add(6, 0, 0, 0);
        x.add(6, 1, 0, 0);
        for (int k = 0; k < 17; k++) {
            x.input(5);
        }
        x.run(2);
        x.dry();
        Due.is("variable stays", x.variable(0), 5);
        Due.is("steps stay", x.steps(), 2);
        Due.is("length stays", x.length(), 2);
        x.run(2);
        Due.is("read when dry", x.variable(0), 0);
        Due.is("input", x.input(8), true);
        x.run(2);
        Due.is("read", x.variable(0), 8);
        Due.is("read when none is left", x.variable(1), 0);
    }

    private static void eachRunReadsFromTheFirst() {
        FactFlow x = new FactFlow();
        x.input(3);
        x.input(4);
        x.add(6, 0, 0, 0);
        for (int k = 0; k < 3; k++) {
            x.run(1);
            Due.is("first input", x.variable(0), 3);
        }
    }

    private static void withoutProgram() {
        for (int steps : new int[] {0, 1, 2000}) {
            FactFlow x = new FactFlow();
            Due.is("run", x.run(steps), 1);
            Due.is("steps", x.steps(), 0);
            Due.is("next", x.next(), FactFlow.BAD);
            Due.is("outputs", x.outputs(), 0);
        }
        FactFlow x = new FactFlow();
        Due.is("run", x.run(-1), FactFlow.BAD);
        Due.is("run", x.run(2001), FactFlow.BAD);
    }

    private static void stepsAreCounted() {
        FactFlow x = new FactFlow();
        x.add(0, 0, 0, 7);
        x.add(12, 0, 0, 0);
        x.add(9, 0, 0, 1);
        Due.is("run", x.run(0), 0);
        Due.is("steps", x.steps(), 0);
        Due.is("next", x.next(), 0);
        Due.is("variable", x.variable(0), 0);
        Due.is("run", x.run(1), 0);
        Due.is("next", x.next(), 1);
        Due.is("variable", x.variable(0), 7);
        Due.is("run", x.run(3), 0);
        Due.is("next", x.next(), 1);
        Due.is("run", x.run(2000), 0);
        Due.is("steps", x.steps(), 2000);
        Due.is("next", x.next(), 2);
    }

    private static void wrongStepsChangeNothing() {
        FactFlow x = new FactFlow();
        x.add(0, 0, 0, 7);
        x.add(10, 0, 0, 0);
        x.add(12, 0, 0, 0);
        x.run(2);
        x.put(0, 0, 0, 0, 8);
        for (int steps : new int[] {-1, 2001, MIN, MAX}) {
            Due.is("run " + steps, x.run(steps), FactFlow.BAD);
            Due.is("steps", x.steps(), 2);
            Due.is("next", x.next(), 2);
            Due.is("variable", x.variable(0), 7);
            Due.is("outputs", x.outputs(), 1);
            Due.is("output", x.output(0), 7);
        }
    }

    private static void endings() {
        FactFlow x = new FactFlow();
        x.add(12, 0, 0, 0);
        x.add(12, 0, 0, 0);
        Due.is("run 1", x.run(1), 0);
        // Behind the last one it has ended, even with no step left.
        Due.is("run 2", x.run(2), 1);
        Due.is("steps", x.steps(), 2);
        Due.is("next", x.next(), FactFlow.BAD);
        Due.is("run 3", x.run(3), 1);
        Due.is("steps", x.steps(), 2);
        x.put(0, 11, 0, 0, 0);
        Due.is("run 0", x.run(0), 0);
        Due.is("run 1", x.run(1), 1);
        Due.is("steps", x.steps(), 1);
        Due.is("next", x.next(), FactFlow.BAD);
        for (int target : new int[] {2, 3, 24}) {
            x.put(0, 9, 0, 0, target);
            Due.is("jump behind", x.run(1), 1);
            Due.is("steps", x.steps(), 1);
            Due.is("next", x.next(), FactFlow.BAD);
        }
        FactFlow y = new FactFlow();
        for (int i = 0; i < 24; i++) {
            y.add(i == 23 ? 11 : 12, 0, 0, 0);
        }
        Due.is("full", y.run(23), 0);
        Due.is("next", y.next(), 23);
        Due.is("full", y.run(24), 1);
    }

    private static void faults() {
        FactFlow x = new FactFlow();
        x.add(0, 0, 0, 6);
        x.add(10, 0, 0, 0);
        x.add(5, 0, 0, 1);
        x.add(10, 0, 0, 0);
        Due.is("run 2", x.run(2), 0);
        Due.is("next", x.next(), 2);
        Due.is("run 3", x.run(3), 2);
        Due.is("steps", x.steps(), 3);
        Due.is("next", x.next(), 2);
        Due.is("variable", x.variable(0), 6);
        Due.is("outputs", x.outputs(), 1);
        Due.is("run 2000", x.run(2000), 2);
        Due.is("steps", x.steps(), 3);
        // The last one too: it faults, and is not behind the last one.
        x.clear();
        x.add(5, 0, 0, 0);
        Due.is("run 1", x.run(1), 2);
        Due.is("next", x.next(), 0);
    }

    private static void calculate(int operation, int p, int q, int due) {
        FactFlow x = new FactFlow();
        x.add(0, 1, 0, p);
        x.add(0, 2, 0, q);
        x.add(operation, 3, 1, 2);
        Due.is("run", x.run(3), 1);
        Due.is("operation " + operation + " of " + p + ", " + q, x.variable(3), due);
        Due.is("p", x.variable(1), p);
        Due.is("q", x.variable(2), q);
    }

    private static void arithmetic() {
        calculate(1, 5, 7, 5);
        calculate(2, 5, 7, 12);
        calculate(2, MAX, 1, MIN);
        calculate(3, 5, 7, -2);
        calculate(3, MIN, 1, MAX);
        calculate(4, -5, 7, -35);
        calculate(4, 65536, 65536, 0);
        calculate(4, MIN, -1, MIN);
        calculate(5, 7, 2, 3);
        calculate(5, -7, 2, -3);
        calculate(5, 7, -2, -3);
        calculate(5, -7, -2, 3);
        calculate(5, MIN, -1, MIN);
        calculate(5, MAX, MIN, 0);
        calculate(5, MAX, 1, MAX);
        FactFlow x = new FactFlow();
        x.add(0, 0, 0, 9);
        x.add(2, 0, 0, 0);
        x.add(4, 0, 0, 0);
        x.add(5, 0, 0, 0);
        x.run(2);
        Due.is("in its own place", x.variable(0), 18);
        x.run(3);
        Due.is("in its own place", x.variable(0), 324);
        x.run(4);
        Due.is("in its own place", x.variable(0), 1);
    }

    private static void jump(int operation, int value, boolean jumps) {
        FactFlow x = new FactFlow();
        x.add(0, 2, 0, value);
        x.add(operation, 2, 0, 4);
        x.add(12, 0, 0, 0);
        x.add(12, 0, 0, 0);
        x.add(12, 0, 0, 0);
        Due.is("run", x.run(2), 0);
        Due.is("operation " + operation + " of " + value, x.next(), jumps ? 4 : 2);
    }

    private static void jumps() {
        jump(7, 0, true);
        jump(7, 1, false);
        jump(7, -1, false);
        jump(7, MIN, false);
        jump(8, 0, false);
        jump(8, 1, false);
        jump(8, -1, true);
        jump(8, MIN, true);
        FactFlow x = new FactFlow();
        x.add(9, 0, 0, 0);
        Due.is("to itself", x.run(2000), 0);
        Due.is("steps", x.steps(), 2000);
        Due.is("next", x.next(), 0);
    }

    private static void readingWhenDry() {
        FactFlow x = new FactFlow();
        x.input(MIN);
        x.add(0, 1, 0, 5);
        x.add(6, 0, 0, 0);
        x.add(6, 1, 0, 0);
        x.run(3);
        Due.is("read", x.variable(0), MIN);
        Due.is("none left", x.variable(1), 0);
    }

    private static void variables() {
        FactFlow x = new FactFlow();
        for (int v = 0; v < 4; v++) {
            x.add(0, v, 0, 10 + v);
        }
        x.run(4);
        for (int v = 0; v < 4; v++) {
            Due.is("variable " + v, x.variable(v), 10 + v);
        }
        for (int v : new int[] {-1, 4, MIN, MAX}) {
            Due.is("variable " + v, x.variable(v), 0);
        }
    }

    private static void outputsBeyond40() {
        FactFlow x = new FactFlow();
        x.add(0, 1, 0, 1);
        x.add(2, 0, 0, 1);
        x.add(10, 0, 0, 0);
        x.add(9, 0, 0, 1);
        Due.is("run", x.run(1999), 0);
        Due.is("outputs", x.outputs(), 666);
        for (int k = 0; k < 40; k++) {
            Due.is("output " + k, x.output(k), k + 1);
        }
        for (int k : new int[] {-1, 40, 41, 665, MIN, MAX}) {
            Due.is("output " + k, x.output(k), 0);
        }
        FactFlow y = new FactFlow();
        y.add(10, 0, 0, 0);
        y.add(9, 0, 0, 0);
        y.run(2000);
        Due.is("outputs", y.outputs(), 1000);
    }

    private static void aRunForgetsTheOneBefore() {
        FactFlow x = new FactFlow();
        x.add(0, 3, 0, 9);
        x.add(10, 3, 0, 0);
        x.add(10, 3, 0, 0);
        x.run(3);
        Due.is("outputs", x.outputs(), 2);
        x.run(2);
        Due.is("outputs", x.outputs(), 1);
        Due.is("output 0", x.output(0), 9);
        Due.is("output 1", x.output(1), 0);
        x.run(0);
        Due.is("outputs", x.outputs(), 0);
        Due.is("output 0", x.output(0), 0);
        Due.is("variable", x.variable(3), 0);
        Due.is("steps", x.steps(), 0);
        // What the program becomes later changes nothing of what was told.
        x.run(3);
        x.put(0, 0, 3, 0, 1);
        x.add(12, 0, 0, 0);
        x.rewrite();
        Due.is("steps", x.steps(), 3);
        Due.is("next", x.next(), FactFlow.BAD);
        Due.is("variable", x.variable(3), 9);
        Due.is("output 1", x.output(1), 9);
    }
}
