/** The boundary cases of promises 1 to 6, and of what the terms say of programs: a test for each sentence. */
public final class ProgramEdgesTest {
    private static final int MIN = Integer.MIN_VALUE, MAX = Integer.MAX_VALUE;
    private static final int BAD = FactFlow.BAD, FULL = FactFlow.FULL;

    /** What each operation uses: the variables a, b, c, any number # as c, or a target t as c. */
    private static final String[] USED = {"a#", "ab", "abc", "abc", "abc", "abc", "a", "at", "at", "t", "a", "", ""};
    private static final int[] BESIDE_VARIABLES = {-1, 4, 5, 24, MIN, MAX};

    public static void main(String[] args) {
        newObjectHasNoProgram();
        newObjectHasNoInputs();
        programIsUpTo24();
        fullChangesNothing();
        badBeforeFull();
        operationsAre0To12();
        aIsAVariable();
        bIsAVariable();
        cIsAVariable();
        targetsAre0To24();
        targetsMayBeBehindTheLast();
        setTakesAnyNumber();
        whatIsNotUsedCountsAs0();
        badAddChangesNothing();
        putNeedsAnInstruction();
        putIntoAFullProgram();
        putRefusesWhatAddRefuses();
        refusedPutChangesNothing();
        clearOfNothing();
        clearOfAFullProgram();
        clearKeepsInputs();
        clearKeepsWhatTheRunTold();
        lengthAtItsEnds();
        codeOfNoInstruction();
        codeOfNoPart();
        worksForAll512Calls();
        Due.end();
    }

    private static boolean uses(int operation, char what) {
        return USED[operation].indexOf(what) >= 0;
    }

    private static void newObjectHasNoProgram() {
        Due.by("Promise 1: No program");
        FactFlow x = new FactFlow();
        Due.is("length()", x.length(), 0);
        Due.code(x, 0, BAD, BAD, BAD, BAD);
        Due.is("put(0, ..)", x.put(0, 12, 0, 0, 0), false);
        Due.is("reached(0)", x.reached(0), false);
        Due.fact(x, 0, 0, BAD, 0, 0);
        Due.is("rewrite()", x.rewrite(), 0);
        Due.is("run(2000)", x.run(2000), 1);
        Due.is("steps()", x.steps(), 0);
        Due.is("the first add", x.add(12, 0, 0, 0), 0);
        Due.is("length()", x.length(), 1);
    }

    private static void newObjectHasNoInputs() {
        Due.by("Promise 1: no inputs");
        FactFlow x = new FactFlow();
        x.add(0, 1, 0, 5);
        x.add(6, 1, 0, 0);
        x.run(2);
        Due.is("variable(1)", x.variable(1), 0);
        for (int k = 0; k < 16; k++) {
            Due.is("input " + k, x.input(9), true);
        }
        Due.is("input 16", x.input(9), false);
    }

    private static void programIsUpTo24() {
        Due.by("Terms: A PROGRAM is up to 24 INSTRUCTIONS; Promise 2: FULL when there are 24");
        FactFlow x = Maker.skips(22);
        Due.is("add with 22", x.add(12, 0, 0, 0), 22);
        Due.is("length()", x.length(), 23);
        Due.is("add with 23", x.add(12, 0, 0, 0), 23);
        Due.is("length()", x.length(), 24);
        Due.is("add with 24", x.add(12, 0, 0, 0), FULL);
        Due.is("length()", x.length(), 24);
        Due.is("add with 24", x.add(12, 0, 0, 0), FULL);
        Due.is("length()", x.length(), 24);
    }

    private static void fullChangesNothing() {
        Due.by("Promise 2: FULL when there are 24");
        FactFlow x = Maker.skips(23);
        x.add(10, 2, 0, 0);
        Due.is("add", x.add(0, 3, 0, 5), FULL);
        Due.code(x, 23, 10, 2, 0, 0);
        Due.code(x, 24, BAD, BAD, BAD, BAD);
        Due.code(x, 0, 12, 0, 0, 0);
        Due.is("reached(24)", x.reached(24), false);
        Due.is("run", x.run(2000), 1);
        Due.is("steps", x.steps(), 24);
        Due.is("variable(3)", x.variable(3), 0);
    }

    private static void badBeforeFull() {
        Due.by("Promise 2: BAD when .. not one of those told; FULL when there are 24");
        FactFlow x = Maker.skips(24);
        Due.is("add, good", x.add(12, 0, 0, 0), FULL);
        Due.is("add, wrong operation", x.add(13, 0, 0, 0), BAD);
        Due.is("add, wrong a", x.add(10, 4, 0, 0), BAD);
        Due.is("add, wrong target", x.add(9, 0, 0, 25), BAD);
        Due.is("add, good target", x.add(9, 0, 0, 24), FULL);
    }

    private static void operationsAre0To12() {
        Due.by("Terms: an OPERATION 0 .. 12");
        FactFlow x = new FactFlow();
        int[] wrong = {-1, 13, 14, MIN, MAX};
        for (int operation : wrong) {
            Due.is("add " + operation, x.add(operation, 0, 0, 0), BAD);
        }
        Due.is("length()", x.length(), 0);
        for (int operation = 0; operation <= 12; operation++) {
            Due.is("add " + operation, x.add(operation, 0, 0, 0), operation);
            Due.is("code", x.code(operation, 0), operation);
        }
        for (int operation : wrong) {
            Due.is("put " + operation, x.put(0, operation, 0, 0, 0), false);
        }
        for (int operation = 12; operation >= 0; operation--) {
            Due.is("put " + operation, x.put(0, operation, 0, 0, 0), true);
            Due.is("code", x.code(0, 0), operation);
        }
    }

    /** The number as a, b or c (place 0, 1, 2) of an operation: by add and by put. */
    private static void given(int operation, int place, int number, boolean good) {
        int a = place == 0 ? number : 0, b = place == 1 ? number : 0, c = place == 2 ? number : 0;
        String what = operation + ", " + a + ", " + b + ", " + c + ")";
        FactFlow x = new FactFlow();
        Due.is("add(" + what, x.add(operation, a, b, c), good ? 0 : BAD);
        Due.is("length()", x.length(), good ? 1 : 0);
        FactFlow y = Maker.skips(1);
        Due.is("put(0, " + what, y.put(0, operation, a, b, c), good);
        Due.is("code(0, 0)", y.code(0, 0), good ? operation : 12);
    }

    private static void variableIn(int place, char name) {
        for (int operation = 0; operation <= 12; operation++) {
            for (int v = 0; v <= 3; v++) {
                given(operation, place, v, true);
            }
            // As c these may be good as a number or a target.
            boolean bound = uses(operation, name);
            boolean other = place == 2 && (uses(operation, 't') || uses(operation, '#'));
            for (int v : BESIDE_VARIABLES) {
                if (!other) {
                    given(operation, place, v, !bound);
                }
            }
        }
    }

    private static void aIsAVariable() {
        Due.by("Terms: (b must be a variable ..) a for all but 9, 11, 12; VARIABLES 0 .. 3");
        variableIn(0, 'a');
    }

    private static void bIsAVariable() {
        Due.by("Terms: b must be a variable for 1 to 5; VARIABLES 0 .. 3");
        variableIn(1, 'b');
    }

    private static void cIsAVariable() {
        Due.by("Terms: (must be a variable) c for 2 to 5; VARIABLES 0 .. 3");
        variableIn(2, 'c');
    }

    private static void targetsAre0To24() {
        Due.by("Terms: as a target c is 0 .. 24");
        for (int operation = 7; operation <= 9; operation++) {
            for (int target = 0; target <= 24; target++) {
                given(operation, 2, target, true);
            }
            for (int target : new int[] {-2, -1, 25, 26, MIN, MAX}) {
                given(operation, 2, target, false);
            }
        }
    }

    private static void targetsMayBeBehindTheLast() {
        Due.by("Terms: as a target c is 0 .. 24 (Going to an instruction that is not there ..)");
        FactFlow x = new FactFlow();
        Due.is("add", x.add(9, 0, 0, 24), 0);
        Due.code(x, 0, 9, 0, 0, 24);
        Due.is("add", x.add(9, 0, 0, 3), 1);
        Due.code(x, 1, 9, 0, 0, 3);
        FactFlow y = Maker.skips(23);
        Due.is("add", y.add(8, 3, 0, 24), 23);
        Due.code(y, 23, 8, 3, 0, 24);
    }

    private static void setTakesAnyNumber() {
        Due.by("Terms: 0 SET: a gets the number c");
        for (int c : new int[] {MIN, MIN + 1, -65537, -1, 0, 1, 3, 4, 24, 25, 65536, MAX - 1, MAX}) {
            FactFlow x = new FactFlow();
            Due.is("add", x.add(0, 3, 0, c), 0);
            Due.code(x, 0, 0, 3, 0, c);
            x.run(1);
            Due.is("variable(3)", x.variable(3), c);
        }
    }

    private static void whatIsNotUsedCountsAs0() {
        Due.by("Terms: what isn't used counts as 0");
        for (int operation = 0; operation <= 12; operation++) {
            for (int strange : new int[] {-1, 3, 4, 25, MIN, MAX}) {
                int a = uses(operation, 'a') ? 3 : strange;
                int b = uses(operation, 'b') ? 2 : strange;
                boolean usesC = uses(operation, 'c') || uses(operation, 't') || uses(operation, '#');
                int c = usesC ? 1 : strange;
                int dueA = uses(operation, 'a') ? 3 : 0, dueB = uses(operation, 'b') ? 2 : 0, dueC = usesC ? 1 : 0;
                FactFlow x = new FactFlow();
                Due.is("add " + operation, x.add(operation, a, b, c), 0);
                Due.code(x, 0, operation, dueA, dueB, dueC);
                FactFlow y = new FactFlow();
                y.add(2, 3, 3, 3);
                Due.is("put " + operation, y.put(0, operation, a, b, c), true);
                Due.code(y, 0, operation, dueA, dueB, dueC);
            }
        }
    }

    private static void badAddChangesNothing() {
        Due.by("Promise 2: BAD when operation, or what it uses of a, b and c, is not one of those told");
        FactFlow x = new FactFlow();
        x.add(0, 1, 0, 7);
        x.add(10, 1, 0, 0);
        Due.is("add", x.add(0, 4, 0, 8), BAD);
        Due.is("add", x.add(13, 1, 0, 8), BAD);
        Due.is("add", x.add(9, 0, 0, -1), BAD);
        Due.is("length()", x.length(), 2);
        Due.code(x, 0, 0, 1, 0, 7);
        Due.code(x, 1, 10, 1, 0, 0);
        Due.code(x, 2, BAD, BAD, BAD, BAD);
        Due.fact(x, 1, 1, 32, 7, FactFlow.PLUS);
        Due.is("the next good one", x.add(12, 0, 0, 0), 2);
        Due.code(x, 2, 12, 0, 0, 0);
    }

    private static void putNeedsAnInstruction() {
        Due.by("Promise 3: false when there is none (number i)");
        for (int length : new int[] {0, 1, 2, 23, 24}) {
            FactFlow x = Maker.skips(length);
            for (int i : new int[] {MIN, -1, length, length + 1, 25, MAX}) {
                Due.is("put(" + i + ", ..) of " + length, x.put(i, 10, 1, 0, 0), false);
            }
            Due.is("length()", x.length(), length);
            for (int i = 0; i < length; i++) {
                Due.is("code(" + i + ", 0)", x.code(i, 0), 12);
            }
            if (length > 0) {
                Due.is("put(0, ..) of " + length, x.put(0, 10, 1, 0, 0), true);
                Due.is("put the last of " + length, x.put(length - 1, 10, 2, 0, 0), true);
                Due.code(x, length - 1, 10, 2, 0, 0);
                Due.is("length()", x.length(), length);
            }
        }
    }

    private static void putIntoAFullProgram() {
        Due.by("Promise 3: Another instruction in the place of number i");
        FactFlow x = Maker.skips(24);
        for (int i = 0; i < 24; i++) {
            Due.is("put(" + i + ", ..)", x.put(i, 0, i % 4, 0, i), true);
        }
        for (int i = 0; i < 24; i++) {
            Due.code(x, i, 0, i % 4, 0, i);
        }
        Due.is("length()", x.length(), 24);
    }

    private static void putRefusesWhatAddRefuses() {
        Due.by("Promise 3: false when .. what is given would be BAD");
        FactFlow x = Maker.skips(2);
        Due.is("put, wrong operation", x.put(1, 13, 0, 0, 0), false);
        Due.is("put, wrong a", x.put(1, 0, 4, 0, 0), false);
        Due.is("put, wrong b", x.put(1, 1, 0, 4, 0), false);
        Due.is("put, wrong c", x.put(1, 2, 0, 0, 4), false);
        Due.is("put, wrong target", x.put(1, 7, 0, 0, 25), false);
        Due.is("put, all wrong", x.put(2, 13, 4, 4, 4), false);
        Due.is("put, no instruction", x.put(2, 2, 3, 3, 3), false);
        Due.is("put, good", x.put(1, 2, 3, 3, 3), true);
        Due.is("put, good target", x.put(1, 7, 3, 0, 24), true);
    }

    private static void refusedPutChangesNothing() {
        Due.by("Promise 3: false when there is none, or what is given would be BAD");
        FactFlow x = new FactFlow();
        x.add(0, 1, 0, 7);
        x.add(10, 1, 0, 0);
        Due.fact(x, 1, 1, 32, 7, FactFlow.PLUS);
        x.put(0, 0, 4, 0, 8);
        x.put(0, 13, 1, 0, 8);
        x.put(1, 9, 0, 0, 25);
        x.put(2, 0, 1, 0, 8);
        x.put(-1, 0, 1, 0, 8);
        Due.is("length()", x.length(), 2);
        Due.code(x, 0, 0, 1, 0, 7);
        Due.code(x, 1, 10, 1, 0, 0);
        Due.fact(x, 1, 1, 32, 7, FactFlow.PLUS);
    }

    private static void clearOfNothing() {
        Due.by("Promise 4: No program any more");
        FactFlow x = new FactFlow();
        x.clear();
        Due.is("length()", x.length(), 0);
        Due.is("add", x.add(12, 0, 0, 0), 0);
        x.clear();
        x.clear();
        Due.is("length()", x.length(), 0);
        Due.is("code(0, 0)", x.code(0, 0), BAD);
        Due.is("put(0, ..)", x.put(0, 12, 0, 0, 0), false);
        Due.is("reached(0)", x.reached(0), false);
        Due.is("rewrite()", x.rewrite(), 0);
    }

    private static void clearOfAFullProgram() {
        Due.by("Promise 4: No program any more");
        FactFlow x = Maker.skips(24);
        Due.is("reached(23)", x.reached(23), true);
        x.clear();
        Due.is("length()", x.length(), 0);
        Due.is("code(23, 0)", x.code(23, 0), BAD);
        Due.is("reached(23)", x.reached(23), false);
        for (int i = 0; i < 24; i++) {
            Due.is("add", x.add(11, 0, 0, 0), i);
        }
        Due.is("add", x.add(11, 0, 0, 0), FULL);
        Due.is("reached(0)", x.reached(0), true);
        Due.is("reached(1)", x.reached(1), false);
    }

    private static void clearKeepsInputs() {
        Due.by("Promise 4: (Inputs .. stay.)");
        FactFlow x = Maker.skips(1);
        for (int k = 0; k < 15; k++) {
            x.input(20 + k);
        }
        x.clear();
        Due.is("the 16th input", x.input(35), true);
        x.clear();
        Due.is("the 17th input", x.input(36), false);
        x.add(6, 0, 0, 0);
        x.add(10, 0, 0, 0);
        x.add(9, 0, 0, 0);
        x.run(51);
        Due.is("outputs()", x.outputs(), 17);
        Due.is("output(0)", x.output(0), 20);
        Due.is("output(15)", x.output(15), 35);
        Due.is("output(16)", x.output(16), 0);
    }

    private static void clearKeepsWhatTheRunTold() {
        Due.by("Promise 4: (.. what the latest run told, stay.)");
        FactFlow x = new FactFlow();
        x.add(0, 3, 0, -8);
        x.add(10, 3, 0, 0);
        x.add(5, 1, 3, 0);
        Due.is("run", x.run(9), 2);
        x.clear();
        Due.is("steps()", x.steps(), 3);
        Due.is("next()", x.next(), 2);
        Due.is("variable(3)", x.variable(3), -8);
        Due.is("outputs()", x.outputs(), 1);
        Due.is("output(0)", x.output(0), -8);
        // A run without a program is the latest one then.
        Due.is("run", x.run(0), 1);
        Due.is("steps()", x.steps(), 0);
        Due.is("next()", x.next(), BAD);
        Due.is("variable(3)", x.variable(3), 0);
        Due.is("outputs()", x.outputs(), 0);
        Due.is("output(0)", x.output(0), 0);
    }

    private static void lengthAtItsEnds() {
        Due.by("Promise 5: How many instructions there are");
        for (int length : new int[] {0, 1, 2, 22, 23, 24}) {
            FactFlow x = Maker.skips(length);
            Due.is("length()", x.length(), length);
            x.rewrite();
            x.run(5);
            Due.is("length()", x.length(), length);
        }
        FactFlow x = Maker.skips(30);
        Due.is("length()", x.length(), 24);
        x.clear();
        Due.is("length()", x.length(), 0);
    }

    private static void codeOfNoInstruction() {
        Due.by("Promise 6: BAD when there is no such instruction");
        for (int length : new int[] {0, 1, 23, 24}) {
            FactFlow x = new FactFlow();
            for (int i = 0; i < length; i++) {
                x.add(5, 1, 2, 3);
            }
            for (int i : new int[] {MIN, -1, length, length + 1, MAX}) {
                Due.code(x, i, BAD, BAD, BAD, BAD);
            }
            if (length > 0) {
                Due.code(x, 0, 5, 1, 2, 3);
                Due.code(x, length - 1, 5, 1, 2, 3);
            }
        }
    }

    private static void codeOfNoPart() {
        Due.by("Promise 6: 0 the operation, 1 a, 2 b, 3 c; BAD when there is no such .. part");
        FactFlow x = new FactFlow();
        x.add(4, 1, 2, 3);
        for (int part : new int[] {MIN, -2, -1, 4, 5, MAX}) {
            Due.is("code(0, " + part + ")", x.code(0, part), BAD);
            Due.is("code(1, " + part + ")", x.code(1, part), BAD);
        }
        Due.is("code(0, 0)", x.code(0, 0), 4);
        Due.is("code(0, 1)", x.code(0, 1), 1);
        Due.is("code(0, 2)", x.code(0, 2), 2);
        Due.is("code(0, 3)", x.code(0, 3), 3);
    }

    private static void worksForAll512Calls() {
        Due.by("What it is: An object is used for at most 512 calls");
        FactFlow x = Maker.skips(24);
        for (int call = 24; call < 508; call++) {
            x.put(call % 24, 0, call % 4, 0, call);
        }
        // The last puts were 484 to 507: 507 into variable 3, in the place 3.
        Due.is("call 509: code", x.code(3, 3), 507);
        Due.is("call 510: rest", x.rest(4, 3), 507);
        Due.is("call 511: run", x.run(2000), 1);
        Due.is("call 512: variable", x.variable(3), 503);
    }
}
