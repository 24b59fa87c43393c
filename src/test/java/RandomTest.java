import java.util.Random;

/** Random runs of calls (always the same ones), each answer beside that of the model. */
public final class RandomTest {
    private static final int[] NUMBERS = {0, 0, 1, -1, 2, 3, -4, 6, 8, 12, 255, 256, 32768, 65535, 65536, 65537,
        -65536, 1 << 20, 1 << 30, 3 << 16, Integer.MAX_VALUE, Integer.MIN_VALUE, Integer.MIN_VALUE + 1, 123456789};

    private final Random random;
    private final FactFlow x = new FactFlow();
    private final Model model = new Model();

    private RandomTest(long seed) {
        random = new Random(seed);
    }

    public static void main(String[] args) {
        for (int seed = 0; seed < 3000; seed++) {
            RandomTest test = new RandomTest(seed);
            if (seed % 3 == 0) {
                test.anyCalls();
            } else if (seed % 10 == 1) {
                test.oneByOne();
            } else {
                test.wholePrograms();
            }
        }
        Due.end();
    }

    private int any(int from, int to) {
        return from + random.nextInt(to - from + 1);
    }

    private int number() {
        int kind = any(0, 9);
        return kind == 0 ? random.nextInt() : kind < 3 ? any(-9, 9) : NUMBERS[any(0, NUMBERS.length - 1)];
    }

    private int mostly(int from, int to) {
        return any(0, 30) == 0 ? number() : any(from, to);
    }

    private int c(int operation) {
        if (operation == 0) {
            return number();
        }
        return operation >= 7 && operation <= 9 ? any(0, 30) == 0 ? number() : any(0, any(1, 26)) : mostly(0, 3);
    }

    private void add() {
        int operation = any(0, 40) == 0 ? any(-2, 15) : any(0, 12);
        int a = mostly(0, 3), b = mostly(0, 3), c = c(operation);
        Due.is("add", x.add(operation, a, b, c), model.add(operation, a, b, c));
    }

    private void put() {
        int operation = any(0, 40) == 0 ? any(-2, 15) : any(0, 12);
        int i = any(-1, model.program.size()), a = mostly(0, 3), b = mostly(0, 3), c = c(operation);
        Due.is("put", x.put(i, operation, a, b, c), model.put(i, operation, a, b, c));
    }

    private void wholePrograms() {
        int length = any(1, 24);
        for (int i = 0; i < length; i++) {
            add();
        }
        int inputs = any(0, 17);
        for (int k = 0; k < inputs; k++) {
            int v = number();
            Due.is("input", x.input(v), model.input(v));
        }
        facts();
        runs(any(0, 2000));
        put();
        facts();
        Due.is("rewrite", x.rewrite(), model.rewrite());
        codes();
        facts();
        Due.is("rewrite again", x.rewrite(), model.rewrite());
        runs(any(0, 60));
    }

    private void anyCalls() {
        for (int call = 0; call < 60; call++) {
            switch (any(0, 11)) {
                case 0, 1, 2, 3 -> add();
                case 4, 5 -> put();
                case 6 -> facts();
                case 7 -> runs(any(0, 20) == 0 ? number() : any(0, 200));
                case 8 -> {
                    int v = number();
                    Due.is("input", x.input(v), model.input(v));
                }
                case 9 -> Due.is("rewrite", x.rewrite(), model.rewrite());
                case 10 -> codes();
                default -> {
                    if (any(0, 5) == 0) {
                        x.clear();
                        model.program.clear();
                    } else if (any(0, 3) == 0) {
                        x.dry();
                        model.inputs.clear();
                    }
                }
            }
        }
    }

    /** As many calls as an object is used for, of all kinds, and a few with arguments that are far off. */
    private void oneByOne() {
        for (int call = 0; call < 512; call++) {
            int kind = any(0, 99);
            if (kind < 40) {
                oneChange(any(0, 99));
            } else if (kind < 70) {
                oneFact(mostly(-1, 24), mostly(-1, 4));
            } else {
                oneAnswer(any(0, 6));
            }
        }
    }

    private void oneChange(int kind) {
        if (kind < 50) {
            add();
        } else if (kind < 75) {
            put();
        } else if (kind < 90) {
            int v = number();
            Due.is("input", x.input(v), model.input(v));
        } else if (kind < 97) {
            Due.is("rewrite", x.rewrite(), model.rewrite());
        } else if (kind < 98) {
            x.dry();
            model.inputs.clear();
        } else {
            x.clear();
            model.program.clear();
        }
    }

    private void oneFact(int i, int v) {
        Model.Fact[][] states = model.solution();
        boolean reached = i >= 0 && i < states.length && states[i] != null;
        Model.Fact due = reached && v >= 0 && v <= 3 ? states[i][v] : null;
        String where = "(" + i + ", " + v + ")";
        switch (any(0, 3)) {
            case 0 -> Due.is("reached(" + i + ")", x.reached(i), reached);
            case 1 -> Due.is("bits" + where, x.bits(i, v), due == null ? -1 : due.k());
            case 2 -> Due.is("rest" + where, x.rest(i, v), due == null ? 0 : (int) due.r());
            default -> Due.is("signs" + where, x.signs(i, v), due == null ? 0 : due.mask());
        }
    }

    private void oneAnswer(int kind) {
        switch (kind) {
            case 0 -> {
                int steps = any(0, 9) == 0 ? number() : any(0, any(5, 2000));
                Due.is("run(" + steps + ")", x.run(steps), model.run(steps));
            }
            case 1 -> Due.is("steps", x.steps(), model.steps);
            case 2 -> Due.is("next", x.next(), model.next);
            case 3 -> {
                int v = mostly(-1, 4);
                Due.is("variable(" + v + ")", x.variable(v), v >= 0 && v <= 3 ? model.variables[v] : 0);
            }
            case 4 -> Due.is("outputs", x.outputs(), model.printed.size());
            case 5 -> {
                int k = mostly(-1, any(0, 41));
                boolean told = k >= 0 && k < 40 && k < model.printed.size();
                Due.is("output(" + k + ")", x.output(k), told ? model.printed.get(k) : 0);
            }
            default -> {
                int i = mostly(-1, 24), part = mostly(-1, 4);
                boolean there = i >= 0 && i < model.program.size() && part >= 0 && part <= 3;
                Due.is("code(" + i + ", " + part + ")", x.code(i, part), there ? model.program.get(i)[part] : -1);
            }
        }
    }

    private void codes() {
        Due.is("length", x.length(), model.program.size());
        for (int i = -1; i <= 24; i++) {
            for (int part = -1; part <= 4; part++) {
                boolean there = i >= 0 && i < model.program.size() && part >= 0 && part <= 3;
                Due.is("code(" + i + ", " + part + ")", x.code(i, part), there ? model.program.get(i)[part] : -1);
            }
        }
    }

    private void facts() {
        Model.Fact[][] states = model.solution();
        for (int i = -1; i <= 24; i++) {
            boolean reached = i >= 0 && i < states.length && states[i] != null;
            Due.is("reached(" + i + ")", x.reached(i), reached);
            for (int v = -1; v <= 4; v++) {
                if (reached && v >= 0 && v <= 3) {
                    Model.Fact due = states[i][v];
                    Due.fact(x, i, v, due.k(), (int) due.r(), due.mask());
                } else {
                    Due.fact(x, i, v, -1, 0, 0);
                }
            }
        }
    }

    private void runs(int steps) {
        Due.is("run(" + steps + ")", x.run(steps), model.run(steps));
        Due.is("steps", x.steps(), model.steps);
        Due.is("next", x.next(), model.next);
        for (int v = -1; v <= 4; v++) {
            Due.is("variable(" + v + ")", x.variable(v), v >= 0 && v <= 3 ? model.variables[v] : 0);
        }
        Due.is("outputs", x.outputs(), model.printed.size());
        for (int k = -1; k <= 41; k++) {
            boolean told = k >= 0 && k < 40 && k < model.printed.size();
            Due.is("output(" + k + ")", x.output(k), told ? model.printed.get(k) : 0);
        }
    }
}
