/** The boundary cases of promises 12 to 19, and of what the terms say of runs: a test for each sentence. */
public final class RunEdgesTest {
    private static final int MIN = Integer.MIN_VALUE, MAX = Integer.MAX_VALUE;
    private static final int BAD = FactFlow.BAD;

    public static void main(String[] args) {
        variablesAre0AtFirst();
        copiesAreOfAnyInt();
        sumsWrap();
        differencesWrap();
        productsWrap();
        divisionGoesTowards0();
        leastIntByMinus1();
        divisionBy0Faults();
        inputsThatHaveRunOut();
        ifZeroAtItsEdge();
        ifNegAtItsEdge();
        goingBehindTheLastOne();
        targetThatComesToBeThere();
        inputsAreUpTo16();
        refusedInputChangesNothing();
        anyIntIsAnInput();
        dryAtItsEnds();
        runWithoutAProgram();
        runOfAtMostSoManySteps();
        stepsAre0To2000();
        badRunChangesNothing();
        endsByStop();
        endsBehindTheLastOne();
        endsByFault();
        endsAtTheVeryLastStep();
        stepsWithoutARun();
        nextInEachCase();
        variablesAre0To3();
        outputsAreAllCounted();
        outputTellsTheFirst40();
        outputThatWasNot();
        aLaterRunTellsItsOwn();
        Due.end();
    }

    /** Reads and prints without an end: three steps for each output. */
    private static FactFlow reader() {
        FactFlow x = new FactFlow();
        x.add(6, 0, 0, 0);
        x.add(10, 0, 0, 0);
        x.add(9, 0, 0, 0);
        return x;
    }

    /** Prints 1, 2, 3, .. without an end; output k is step 3 k + 3. */
    private static FactFlow counter() {
        FactFlow x = new FactFlow();
        x.add(0, 1, 0, 1);
        x.add(2, 0, 0, 1);
        x.add(10, 0, 0, 0);
        x.add(9, 0, 0, 1);
        return x;
    }

    private static void told(FactFlow x, int steps, int next, int outputs) {
        Due.is("steps()", x.steps(), steps);
        Due.is("next()", x.next(), next);
        Due.is("outputs()", x.outputs(), outputs);
    }

    private static void calculate(int operation, int p, int q, int due) {
        FactFlow x = new FactFlow();
        x.add(0, 0, 0, p);
        x.add(0, 3, 0, q);
        x.add(operation, 1, 0, 3);
        Due.is("run(3)", x.run(3), 1);
        Due.is("operation " + operation + " of " + p + ", " + q, x.variable(1), due);
    }

    private static void variablesAre0AtFirst() {
        Due.by("Terms: VARIABLES 0 .. 3 hold ints .. 0 at first");
        FactFlow x = new FactFlow();
        for (int v = 0; v < 4; v++) {
            x.add(10, v, 0, 0);
        }
        for (int v = 0; v < 4; v++) {
            x.add(0, v, 0, 9);
        }
        for (int time = 0; time < 2; time++) {
            x.run(8);
            for (int v = 0; v < 4; v++) {
                Due.is("output(" + v + ")", x.output(v), 0);
                Due.is("variable(" + v + ")", x.variable(v), 9);
            }
        }
        x.run(0);
        for (int v = 0; v < 4; v++) {
            Due.is("variable(" + v + ")", x.variable(v), 0);
        }
    }

    private static void copiesAreOfAnyInt() {
        Due.by("Terms: 1 COPY: a gets b");
        for (int number : new int[] {MIN, -1, 0, 1, MAX}) {
            for (int v = 0; v < 4; v++) {
                FactFlow x = new FactFlow();
                for (int w = 0; w < 4; w++) {
                    x.add(0, w, 0, 7);
                }
                x.add(0, 3, 0, number);
                x.add(1, v, 3, 0);
                Due.is("run(6)", x.run(6), 1);
                for (int w = 0; w < 4; w++) {
                    Due.is("variable(" + w + ")", x.variable(w), w == v || w == 3 ? number : 7);
                }
            }
        }
    }

    private static void sumsWrap() {
        Due.by("Terms: ints (which wrap); 2 ADD");
        calculate(2, MAX - 1, 1, MAX);
        calculate(2, MAX, 0, MAX);
        calculate(2, MAX, 1, MIN);
        calculate(2, MAX, 2, MIN + 1);
        calculate(2, MAX, MAX, -2);
        calculate(2, MIN + 1, -1, MIN);
        calculate(2, MIN, 0, MIN);
        calculate(2, MIN, -1, MAX);
        calculate(2, MIN, MIN, 0);
        calculate(2, MIN, MAX, -1);
    }

    private static void differencesWrap() {
        Due.by("Terms: ints (which wrap); 3 SUB");
        calculate(3, MIN + 1, 1, MIN);
        calculate(3, MIN, 0, MIN);
        calculate(3, MIN, 1, MAX);
        calculate(3, MIN, 2, MAX - 1);
        calculate(3, MAX - 1, -1, MAX);
        calculate(3, MAX, -1, MIN);
        calculate(3, 0, MIN + 1, MAX);
        calculate(3, 0, MIN, MIN);
        calculate(3, -1, MIN, MAX);
        calculate(3, 1, MIN, MIN + 1);
    }

    private static void productsWrap() {
        Due.by("Terms: ints (which wrap); 4 MUL");
        calculate(4, 46340, 46340, 2147395600);
        calculate(4, 46341, 46341, -2147479015);
        calculate(4, 32768, 65535, 2147450880);
        calculate(4, 32768, 65536, MIN);
        calculate(4, -32768, 65536, MIN);
        calculate(4, -32769, 65536, MAX - 65535);
        calculate(4, 65535, 65537, -1);
        calculate(4, 65536, 65536, 0);
        calculate(4, MIN, -1, MIN);
        calculate(4, MIN, 2, 0);
        calculate(4, MIN, 3, MIN);
        calculate(4, MAX, MAX, 1);
    }

    private static void divisionGoesTowards0() {
        Due.by("Terms: 5 DIV: a gets b / c, towards 0");
        calculate(5, 6, 3, 2);
        calculate(5, 5, 3, 1);
        calculate(5, -5, 3, -1);
        calculate(5, 5, -3, -1);
        calculate(5, -5, -3, 1);
        calculate(5, -6, 3, -2);
        calculate(5, 2, 3, 0);
        calculate(5, -2, 3, 0);
        calculate(5, 2, -3, 0);
        calculate(5, 0, -3, 0);
        calculate(5, MAX, MIN, 0);
        calculate(5, MIN, MAX, -1);
        calculate(5, MIN + 1, MAX, -1);
        calculate(5, MIN + 2, MAX, 0);
    }

    private static void leastIntByMinus1() {
        Due.by("Terms: (the least int by -1 is itself)");
        calculate(5, MIN, -1, MIN);
        calculate(5, MIN + 1, -1, MAX);
        calculate(5, MAX, -1, MIN + 1);
        calculate(5, MIN, 1, MIN);
        calculate(5, MIN, -2, 1 << 30);
        calculate(5, MIN, MIN, 1);
    }

    private static void divisionBy0Faults() {
        Due.by("Terms: if c is 0 the run ends by FAULT");
        for (int divisor : new int[] {MIN, -2, -1, 0, 1, 2, MAX}) {
            for (int number : new int[] {MIN, -1, 0, 1, MAX}) {
                FactFlow x = new FactFlow();
                x.add(0, 0, 0, number);
                x.add(0, 1, 0, divisor);
                x.add(5, 2, 0, 1);
                Due.is("run of " + number + " / " + divisor, x.run(3), divisor == 0 ? 2 : 1);
            }
        }
        // All three may be the same variable; only c counts.
        FactFlow y = new FactFlow();
        y.add(5, 0, 0, 0);
        Due.is("run", y.run(1), 2);
        y.clear();
        y.add(0, 1, 0, 5);
        y.add(5, 0, 0, 1);
        Due.is("run", y.run(2), 1);
        y.put(1, 5, 0, 1, 0);
        Due.is("run", y.run(2), 2);
    }

    private static void inputsThatHaveRunOut() {
        Due.by("Terms: 6 READ: a gets the next input, 0 when there is none");
        for (int inputs : new int[] {0, 1, 2, 15, 16}) {
            FactFlow x = reader();
            x.put(2, 0, 0, 0, 77);
            x.add(9, 0, 0, 0);
            for (int k = 0; k < inputs; k++) {
                x.input(-50 - k);
            }
            x.run(4 * 19);
            Due.is("outputs()", x.outputs(), 19);
            for (int k = 0; k < 19; k++) {
                Due.is("read " + k + " of " + inputs, x.output(k), k < inputs ? -50 - k : 0);
            }
        }
    }

    private static void jump(int operation, int number, boolean jumps) {
        FactFlow x = Maker.skips(5);
        x.put(0, 0, 3, 0, number);
        x.put(1, operation, 3, 0, 4);
        Due.is("run(2)", x.run(2), 0);
        Due.is("next() behind " + operation + " of " + number, x.next(), jumps ? 4 : 2);
        Due.is("variable(3)", x.variable(3), number);
    }

    private static void ifZeroAtItsEdge() {
        Due.by("Terms: 7 IFZERO .. goes to the instruction c if a is 0");
        jump(7, MIN, false);
        jump(7, -1, false);
        jump(7, 0, true);
        jump(7, 1, false);
        jump(7, 65536, false);
        jump(7, MAX, false);
    }

    private static void ifNegAtItsEdge() {
        Due.by("Terms: 8 IFNEG: goes to the instruction c if a is .. less than 0");
        jump(8, MIN, true);
        jump(8, -65536, true);
        jump(8, -1, true);
        jump(8, 0, false);
        jump(8, 1, false);
        jump(8, MAX, false);
    }

    private static void goingBehindTheLastOne() {
        Due.by("Terms: Going to an instruction that is not there (behind the last one) ends the run");
        for (int operation : new int[] {7, 8, 9}) {
            for (int target : new int[] {0, 1, 3, 4, 5, 23, 24}) {
                FactFlow x = Maker.skips(4);
                x.put(0, 0, 0, 0, operation == 8 ? -1 : 0);
                x.put(1, operation, 0, 0, target);
                boolean there = target < 4;
                Due.is("run, target " + target, x.run(2), there ? 0 : 1);
                told(x, 2, there ? target : BAD, 0);
            }
        }
        // In a full program only 24 is not there.
        for (int target : new int[] {22, 23, 24}) {
            FactFlow x = Maker.skips(24);
            x.put(0, 9, 0, 0, target);
            Due.is("run, target " + target, x.run(1), target < 24 ? 0 : 1);
            told(x, 1, target < 24 ? target : BAD, 0);
            x.run(2000);
            Due.is("steps, target " + target, x.steps(), 1 + 24 - target);
        }
        FactFlow y = Maker.skips(24);
        y.put(23, 9, 0, 0, 0);
        Due.is("run", y.run(24), 0);
        told(y, 24, 0, 0);
    }

    private static void targetThatComesToBeThere() {
        Due.by("Terms: Going to an instruction that is not there (behind the last one) ends the run");
        FactFlow x = new FactFlow();
        x.add(9, 0, 0, 2);
        x.add(11, 0, 0, 0);
        Due.is("run", x.run(9), 1);
        told(x, 1, BAD, 0);
        x.add(10, 0, 0, 0);
        Due.is("run", x.run(9), 1);
        told(x, 2, BAD, 1);
        // What a cleared program had there is not there any more.
        x.clear();
        x.add(9, 0, 0, 2);
        Due.is("run", x.run(9), 1);
        told(x, 1, BAD, 0);
    }

    private static void inputsAreUpTo16() {
        Due.by("Promise 12: One more input; false when there are 16");
        FactFlow x = reader();
        for (int k = 0; k < 15; k++) {
            Due.is("input with " + k, x.input(k + 1), true);
        }
        Due.is("input with 15", x.input(16), true);
        Due.is("input with 16", x.input(17), false);
        Due.is("input with 16", x.input(18), false);
        x.run(3 * 18);
        for (int k = 0; k < 18; k++) {
            Due.is("output(" + k + ")", x.output(k), k < 16 ? k + 1 : 0);
        }
        Due.is("input after a run", x.input(17), false);
    }

    private static void refusedInputChangesNothing() {
        Due.by("Promise 12: false when there are 16");
        FactFlow x = reader();
        for (int k = 0; k < 16; k++) {
            x.input(100 + k);
        }
        x.run(2);
        for (int k = 0; k < 20; k++) {
            Due.is("input", x.input(-1), false);
        }
        told(x, 2, 2, 1);
        Due.is("output(0)", x.output(0), 100);
        x.run(3 * 17);
        Due.is("output(0)", x.output(0), 100);
        Due.is("output(15)", x.output(15), 115);
        Due.is("output(16)", x.output(16), 0);
    }

    private static void anyIntIsAnInput() {
        Due.by("Promise 12: One more input");
        FactFlow x = reader();
        int[] numbers = {MIN, -1, 0, 1, MAX};
        for (int v : numbers) {
            Due.is("input(" + v + ")", x.input(v), true);
        }
        x.run(15);
        for (int k = 0; k < numbers.length; k++) {
            Due.is("output(" + k + ")", x.output(k), numbers[k]);
        }
    }

    private static void dryAtItsEnds() {
        Due.by("Promise 13: No inputs any more");
        FactFlow x = reader();
        x.dry();
        x.run(3);
        Due.is("output(0)", x.output(0), 0);
        for (int inputs : new int[] {1, 16}) {
            for (int k = 0; k < inputs; k++) {
                Due.is("input", x.input(9), true);
            }
            x.run(3);
            x.dry();
            Due.is("what the run told stays", x.output(0), 9);
            told(x, 3, 0, 1);
            Due.is("the program stays", x.length(), 3);
            x.run(2000);
            for (int k = 0; k < 17; k++) {
                Due.is("output(" + k + ")", x.output(k), 0);
            }
        }
        x.dry();
        for (int k = 0; k < 16; k++) {
            Due.is("input with " + k, x.input(k), true);
        }
        Due.is("input with 16", x.input(16), false);
    }

    private static void runWithoutAProgram() {
        Due.by("Promise 14: (Without a program it has ended at once: 1.)");
        for (int steps : new int[] {0, 1, 1999, 2000}) {
            FactFlow x = new FactFlow();
            Due.is("run(" + steps + ")", x.run(steps), 1);
            told(x, 0, BAD, 0);
            FactFlow y = Maker.skips(1);
            Due.is("run(" + steps + ")", y.run(steps), steps == 0 ? 0 : 1);
        }
        for (int steps : new int[] {-1, 2001}) {
            Due.is("run(" + steps + ")", new FactFlow().run(steps), BAD);
        }
    }

    private static void runOfAtMostSoManySteps() {
        Due.by("Promise 14: of at most so many steps (instructions done); 0 when it would go on");
        FactFlow x = counter();
        for (int steps : new int[] {0, 1, 2, 3, 4, 1999, 2000}) {
            Due.is("run(" + steps + ")", x.run(steps), 0);
            told(x, steps, steps == 0 ? 0 : (steps - 1) % 3 + 1, steps / 3);
            Due.is("variable(0)", x.variable(0), (steps + 1) / 3);
        }
    }

    private static void stepsAre0To2000() {
        Due.by("Promise 14: BAD when steps is not 0 .. 2000");
        FactFlow x = counter();
        for (int steps : new int[] {MIN, -2, -1, 2001, 2002, MAX}) {
            Due.is("run(" + steps + ")", x.run(steps), BAD);
        }
        for (int steps : new int[] {0, 1, 1999, 2000}) {
            Due.is("run(" + steps + ")", x.run(steps), 0);
            Due.is("steps()", x.steps(), steps);
        }
    }

    private static void badRunChangesNothing() {
        Due.by("Promise 15: the latest run that wasn't BAD; likewise below");
        for (int steps : new int[] {-1, 2001}) {
            FactFlow x = counter();
            x.run(steps);
            told(x, 0, BAD, 0);
            x.run(4);
            x.run(steps);
            told(x, 4, 1, 1);
            Due.is("variable(0)", x.variable(0), 1);
            Due.is("variable(1)", x.variable(1), 1);
            Due.is("output(0)", x.output(0), 1);
            x.clear();
            x.run(steps);
            told(x, 4, 1, 1);
        }
    }

    private static void endsByStop() {
        Due.by("Promise 14: 1 when it ended by STOP");
        FactFlow x = Maker.skips(3);
        x.put(1, 11, 0, 0, 0);
        Due.is("run(1)", x.run(1), 0);
        told(x, 1, 1, 0);
        for (int steps : new int[] {2, 3, 2000}) {
            Due.is("run(" + steps + ")", x.run(steps), 1);
            told(x, 2, BAD, 0);
        }
        FactFlow y = new FactFlow();
        y.add(11, 0, 0, 0);
        Due.is("run(0)", y.run(0), 0);
        told(y, 0, 0, 0);
        Due.is("run(1)", y.run(1), 1);
        told(y, 1, BAD, 0);
    }

    private static void endsBehindTheLastOne() {
        Due.by("Promise 14: 1 when it ended .. behind the last one");
        for (int length : new int[] {1, 2, 23, 24}) {
            FactFlow x = Maker.skips(length);
            Due.is("run of one less", x.run(length - 1), 0);
            told(x, length - 1, length - 1, 0);
            Due.is("run of as many", x.run(length), 1);
            told(x, length, BAD, 0);
            Due.is("run of one more", x.run(length + 1), 1);
            told(x, length, BAD, 0);
        }
    }

    private static void endsByFault() {
        Due.by("Promise 14: 2 by FAULT (that step counts)");
        for (int before : new int[] {0, 1, 22, 23}) {
            FactFlow x = Maker.skips(before);
            x.add(5, 0, 0, 1);
            Due.is("run of one less", x.run(before), 0);
            told(x, before, before, 0);
            for (int steps : new int[] {before + 1, before + 2, 2000}) {
                Due.is("run(" + steps + ")", x.run(steps), 2);
                told(x, before + 1, before, 0);
            }
        }
        // Nothing is given to a, and nothing behind is done.
        FactFlow y = new FactFlow();
        y.add(0, 2, 0, 6);
        y.add(5, 2, 2, 0);
        y.add(10, 2, 0, 0);
        Due.is("run", y.run(2000), 2);
        told(y, 2, 1, 0);
        Due.is("variable(2)", y.variable(2), 6);
    }

    /** Its instruction 6 is step 2001 when it counts down from 666 (one step less without the SKIP). */
    private static FactFlow lateInstruction(int operation) {
        FactFlow x = new FactFlow();
        x.add(0, 0, 0, 666);
        x.add(0, 1, 0, 1);
        x.add(12, 0, 0, 0);
        x.add(3, 0, 0, 1);
        x.add(7, 0, 0, 6);
        x.add(9, 0, 0, 3);
        x.add(operation, 0, 0, 0);
        return x;
    }

    private static void endsAtTheVeryLastStep() {
        Due.by("Promise 14: of at most so many steps; 1 .. by STOP or behind the last one, 2 by FAULT");
        for (int operation : new int[] {5, 11, 12}) {
            FactFlow x = lateInstruction(operation);
            Due.is("run(2000), step 2001 ends", x.run(2000), 0);
            told(x, 2000, 6, 0);
            // 665 turns instead of 666: it ends three steps sooner.
            x.put(0, 0, 0, 0, 665);
            Due.is("run(1997), step 1998 ends", x.run(1997), 0);
            told(x, 1997, 6, 0);
            Due.is("run(1998)", x.run(1998), operation == 5 ? 2 : 1);
            told(x, 1998, operation == 5 ? 6 : BAD, 0);
            // Without the SKIP step 2000 ends it.
            x.put(0, 0, 0, 0, 666);
            x.put(1, 0, 1, 0, 1);
            x.put(2, 3, 0, 0, 1);
            x.put(3, 7, 0, 0, 6);
            x.put(4, 9, 0, 0, 2);
            Due.is("run(1999), step 2000 ends", x.run(1999), 0);
            told(x, 1999, 6, 0);
            Due.is("run(2000), step 2000 ends", x.run(2000), operation == 5 ? 2 : 1);
            told(x, 2000, operation == 5 ? 6 : BAD, 0);
        }
    }

    private static void stepsWithoutARun() {
        Due.by("Promise 15: 0 when there was none");
        FactFlow x = counter();
        Due.is("steps()", x.steps(), 0);
        x.run(-1);
        Due.is("steps()", x.steps(), 0);
        x.run(2000);
        Due.is("steps()", x.steps(), 2000);
        x.run(0);
        Due.is("steps()", x.steps(), 0);
    }

    private static void nextInEachCase() {
        Due.by("Promise 16: would be next; one that faulted; BAD when it ended otherwise, or there was none");
        FactFlow x = Maker.skips(3);
        Due.is("next() without a run", x.next(), BAD);
        x.run(0);
        Due.is("next() at the beginning", x.next(), 0);
        x.run(2);
        Due.is("next() before the last", x.next(), 2);
        x.run(3);
        Due.is("next() behind the last", x.next(), BAD);
        x.put(2, 5, 0, 0, 0);
        x.run(3);
        Due.is("next() of a fault", x.next(), 2);
        x.put(2, 11, 0, 0, 0);
        x.run(3);
        Due.is("next() behind STOP", x.next(), BAD);
        x.put(2, 9, 0, 0, 24);
        x.run(3);
        Due.is("next() behind a jump", x.next(), BAD);
        x.put(2, 9, 0, 0, 2);
        x.run(3);
        Due.is("next() of a jump to itself", x.next(), 2);
        x.clear();
        x.run(3);
        Due.is("next() without a program", x.next(), BAD);
    }

    private static void variablesAre0To3() {
        Due.by("Promise 17: A variable at its end; 0 when there is no such one");
        FactFlow x = new FactFlow();
        int[] numbers = {MIN, -1, 1, MAX};
        for (int v = 0; v < 4; v++) {
            Due.is("variable without a run", x.variable(v), 0);
            x.add(0, v, 0, numbers[v]);
        }
        for (int done = 0; done <= 4; done++) {
            x.run(done);
            for (int v = 0; v < 4; v++) {
                Due.is("variable(" + v + ") after " + done, x.variable(v), v < done ? numbers[v] : 0);
            }
            for (int v : new int[] {MIN, -2, -1, 4, 5, MAX}) {
                Due.is("variable(" + v + ")", x.variable(v), 0);
            }
        }
    }

    private static void outputsAreAllCounted() {
        Due.by("Promise 18: How many outputs it had. (All; output() tells the first 40.)");
        FactFlow x = counter();
        Due.is("outputs() without a run", x.outputs(), 0);
        for (int outputs : new int[] {0, 1, 39, 40, 41, 666}) {
            // One step before the output, and then with it.
            if (outputs > 0) {
                x.run(3 * outputs - 1);
                Due.is("outputs()", x.outputs(), outputs - 1);
            }
            x.run(3 * outputs);
            Due.is("outputs()", x.outputs(), outputs);
        }
        // Twenty-three PRINTs and a jump: the most outputs of a run.
        FactFlow y = new FactFlow();
        for (int i = 0; i < 23; i++) {
            y.add(10, 0, 0, 0);
        }
        y.add(9, 0, 0, 0);
        y.run(2000);
        Due.is("outputs()", y.outputs(), 83 * 23 + 8);
    }

    private static void outputTellsTheFirst40() {
        Due.by("Promise 19: Output k; 0 when .. k is not 0 .. 39");
        for (int outputs : new int[] {39, 40, 41, 100}) {
            FactFlow x = counter();
            x.run(3 * outputs);
            Due.is("output(0)", x.output(0), 1);
            Due.is("output(38)", x.output(38), 39);
            Due.is("output(39)", x.output(39), outputs > 39 ? 40 : 0);
            for (int k : new int[] {MIN, -1, 40, 41, 99, 100, MAX}) {
                Due.is("output(" + k + ") of " + outputs, x.output(k), 0);
            }
        }
    }

    private static void outputThatWasNot() {
        Due.by("Promise 19: 0 when there was none");
        FactFlow x = counter();
        Due.is("output(0) without a run", x.output(0), 0);
        for (int outputs : new int[] {0, 1, 2, 38}) {
            x.run(150);
            x.run(3 * outputs);
            for (int k = 0; k <= 40; k++) {
                Due.is("output(" + k + ") of " + outputs, x.output(k), k < outputs ? k + 1 : 0);
            }
        }
    }

    private static void aLaterRunTellsItsOwn() {
        Due.by("Promise 14: A run from the beginning; Promise 15: of the latest run");
        FactFlow x = reader();
        x.input(5);
        x.input(6);
        for (int time = 0; time < 3; time++) {
            x.run(6);
            told(x, 6, 0, 2);
            Due.is("output(0)", x.output(0), 5);
            Due.is("output(1)", x.output(1), 6);
            x.run(1);
            told(x, 1, 1, 0);
            Due.is("variable(0)", x.variable(0), 5);
            Due.is("output(0)", x.output(0), 0);
        }
        // What the program becomes later changes nothing of what was told.
        x.put(0, 11, 0, 0, 0);
        x.add(12, 0, 0, 0);
        x.rewrite();
        told(x, 1, 1, 0);
        Due.is("variable(0)", x.variable(0), 5);
    }
}
