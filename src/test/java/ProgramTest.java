/** Promises 1 to 6: a new object, add, put, clear, length, code. */
public final class ProgramTest {
    private static final int MIN = Integer.MIN_VALUE, MAX = Integer.MAX_VALUE;

    public static void main(String[] args) {
        newObject();
        newObjectHasNoInputs();
        addAnswersNumbers();
        addForgetsWhatIsNotUsed();
        addRefusesOperations();
        addRefusesVariables();
        addRefusesTargets();
        addIsFull();
        putReplaces();
        putRefuses();
        clearForgetsTheProgramAlone();
        codeRefuses();
        objectsAreApart();
        Due.end();
    }

    private static void newObject() {
        FactFlow x = new FactFlow();
        Due.is("new length", x.length(), 0);
        Due.is("new code", x.code(0, 0), FactFlow.BAD);
        Due.is("new reached", x.reached(0), false);
        Due.fact(x, 0, 0, FactFlow.BAD, 0, 0);
        Due.is("new rewrite", x.rewrite(), 0);
        Due.is("new steps", x.steps(), 0);
        Due.is("new next", x.next(), FactFlow.BAD);
        for (int v = -1; v <= 4; v++) {
            Due.is("new variable", x.variable(v), 0);
        }
        Due.is("new outputs", x.outputs(), 0);
        for (int k = -1; k <= 40; k++) {
            Due.is("new output", x.output(k), 0);
        }
    }

    private static void newObjectHasNoInputs() {
        FactFlow x = new FactFlow();
        for (int k = 0; k < 16; k++) {
            Due.is("input of a new object", x.input(7), true);
        }
        Due.is("input 17", x.input(7), false);
    }

    private static void addAnswersNumbers() {
        FactFlow x = new FactFlow();
        for (int operation = 0; operation <= 12; operation++) {
            Due.is("add " + operation, x.add(operation, 3, 3, 3), operation);
            Due.is("length", x.length(), operation + 1);
        }
    }

    private static void addForgetsWhatIsNotUsed() {
        FactFlow x = new FactFlow();
        x.add(0, 1, 99, MIN);
        x.add(1, 1, 2, 99);
        x.add(2, 1, 2, 3);
        x.add(3, 3, 2, 1);
        x.add(4, 0, 3, 2);
        x.add(5, 2, 0, 3);
        x.add(6, 2, -9, -9);
        x.add(7, 3, -9, 24);
        x.add(8, 1, 99, 0);
        x.add(9, -9, 99, 23);
        x.add(10, 3, 99, 99);
        x.add(11, 99, 99, 99);
        x.add(12, -9, -9, -9);
        Due.code(x, 0, 0, 1, 0, MIN);
        Due.code(x, 1, 1, 1, 2, 0);
        Due.code(x, 2, 2, 1, 2, 3);
        Due.code(x, 3, 3, 3, 2, 1);
        Due.code(x, 4, 4, 0, 3, 2);
        Due.code(x, 5, 5, 2, 0, 3);
        Due.code(x, 6, 6, 2, 0, 0);
        Due.code(x, 7, 7, 3, 0, 24);
        Due.code(x, 8, 8, 1, 0, 0);
        Due.code(x, 9, 9, 0, 0, 23);
        Due.code(x, 10, 10, 3, 0, 0);
        Due.code(x, 11, 11, 0, 0, 0);
        Due.code(x, 12, 12, 0, 0, 0);
    }

    private static void addRefusesOperations() {
        FactFlow x = new FactFlow();
        for (int operation : new int[] {-1, 13, MIN, MAX, 256}) {
            Due.is("add " + operation, x.add(operation, 0, 0, 0), FactFlow.BAD);
        }
        Due.is("length", x.length(), 0);
    }

    private static void addRefusesVariables() {
        for (int wrong : new int[] {-1, 4, MIN, MAX}) {
            for (int operation = 0; operation <= 12; operation++) {
                boolean usesA = operation != 9 && operation != 11 && operation != 12;
                boolean usesB = operation >= 1 && operation <= 5;
                boolean usesC = operation >= 2 && operation <= 5;
                boolean jumps = operation >= 7 && operation <= 9;
                boolean badTarget = jumps && wrong != 4;
                String what = " of operation " + operation + ", " + wrong;
                Due.is("a" + what, new FactFlow().add(operation, wrong, 0, 0), usesA ? FactFlow.BAD : 0);
                Due.is("b" + what, new FactFlow().add(operation, 0, wrong, 0), usesB ? FactFlow.BAD : 0);
                Due.is("c" + what, new FactFlow().add(operation, 0, 0, wrong),
                        usesC || badTarget ? FactFlow.BAD : 0);
            }
        }
    }

    private static void addRefusesTargets() {
        for (int operation = 7; operation <= 9; operation++) {
            FactFlow x = new FactFlow();
            Due.is("target 25", x.add(operation, 0, 0, 25), FactFlow.BAD);
            Due.is("target -1", x.add(operation, 0, 0, -1), FactFlow.BAD);
            Due.is("target 24", x.add(operation, 0, 0, 24), 0);
            Due.is("target 0", x.add(operation, 0, 0, 0), 1);
        }
    }

    private static void addIsFull() {
        FactFlow x = new FactFlow();
        for (int i = 0; i < 24; i++) {
            Due.is("add", x.add(12, 0, 0, 0), i);
        }
        Due.is("add 25th", x.add(12, 0, 0, 0), FactFlow.FULL);
        Due.is("add 25th, wrong", x.add(13, 0, 0, 0), FactFlow.BAD);
        Due.is("length", x.length(), 24);
        Due.is("put the last", x.put(23, 0, 2, 0, 5), true);
        Due.code(x, 23, 0, 2, 0, 5);
        Due.is("put behind", x.put(24, 0, 2, 0, 5), false);
        Due.is("code behind", x.code(24, 0), FactFlow.BAD);
        x.clear();
        Due.is("add after clear", x.add(12, 0, 0, 0), 0);
    }

    private static void putReplaces() {
        FactFlow x = new FactFlow();
        x.add(0, 0, 0, 5);
        x.add(10, 0, 0, 0);
        Due.fact(x, 1, 0, 32, 5, FactFlow.PLUS);
        Due.is("put", x.put(0, 0, 0, 9, -5), true);
        Due.code(x, 0, 0, 0, 0, -5);
        Due.code(x, 1, 10, 0, 0, 0);
        Due.is("length", x.length(), 2);
        // The facts are those of the program as it is now.
        Due.fact(x, 1, 0, 32, -5, FactFlow.MINUS);
        x.put(0, 2, 3, 2, 1);
        Due.code(x, 0, 2, 3, 2, 1);
        x.put(0, 9, 3, 2, 1);
        Due.code(x, 0, 9, 0, 0, 1);
    }

    private static void putRefuses() {
        FactFlow x = new FactFlow();
        Due.is("put without program", x.put(0, 12, 0, 0, 0), false);
        x.add(2, 1, 2, 3);
        int[] places = {-1, 1, 24, MIN, MAX};
        for (int i : places) {
            Due.is("put " + i, x.put(i, 12, 0, 0, 0), false);
        }
        Due.is("put operation", x.put(0, 13, 0, 0, 0), false);
        Due.is("put operation", x.put(0, -1, 0, 0, 0), false);
        Due.is("put a", x.put(0, 10, 4, 0, 0), false);
        Due.is("put b", x.put(0, 1, 0, -1, 0), false);
        Due.is("put c", x.put(0, 5, 0, 0, 4), false);
        Due.is("put target", x.put(0, 9, 0, 0, 25), false);
        Due.code(x, 0, 2, 1, 2, 3);
        Due.is("length", x.length(), 1);
    }

    private static void clearForgetsTheProgramAlone() {
        FactFlow x = new FactFlow();
        x.input(41);
        x.add(6, 2, 0, 0);
        x.add(10, 2, 0, 0);
        x.add(12, 0, 0, 0);
        Due.is("run", x.run(2), 0);
        x.clear();
        Due.is("length", x.length(), 0);
        Due.is("code", x.code(0, 0), FactFlow.BAD);
        Due.is("reached", x.reached(0), false);
        Due.is("steps stay", x.steps(), 2);
        Due.is("next stays", x.next(), 2);
        Due.is("variable stays", x.variable(2), 41);
        Due.is("outputs stay", x.outputs(), 1);
        Due.is("output stays", x.output(0), 41);
        x.add(6, 0, 0, 0);
        x.run(1);
        Due.is("input stays", x.variable(0), 41);
    }

    private static void codeRefuses() {
        FactFlow x = new FactFlow();
        x.add(2, 1, 2, 3);
        for (int i : new int[] {-1, 1, 24, MIN, MAX}) {
            Due.code(x, i, FactFlow.BAD, FactFlow.BAD, FactFlow.BAD, FactFlow.BAD);
        }
        for (int part : new int[] {-1, 4, MIN, MAX}) {
            Due.is("part " + part, x.code(0, part), FactFlow.BAD);
        }
    }

    private static void objectsAreApart() {
        FactFlow x = new FactFlow();
        FactFlow y = new FactFlow();
        x.add(0, 0, 0, 5);
        x.input(3);
        x.run(5);
        Due.is("other length", y.length(), 0);
        Due.is("other variable", y.variable(0), 0);
        y.add(6, 1, 0, 0);
        y.run(1);
        Due.is("other input", y.variable(1), 0);
        Due.is("own variable", x.variable(0), 5);
    }
}
