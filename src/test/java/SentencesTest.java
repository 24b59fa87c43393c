/** The sentences of the document that name no boundary, and what holds for whole runs of calls. */
public final class SentencesTest {
    private static final int MIN = Integer.MIN_VALUE, MAX = Integer.MAX_VALUE;
    private static final int BAD = FactFlow.BAD;
    private static final int M = 1, Z = 2, P = 4, ALL = 7;
    private static final int[] STRANGE = {MIN, MIN + 1, -65536, -25, -2, -1, 0, 1, 2, 3, 4, 5, 9, 12, 13, 15, 16, 17,
        23, 24, 25, 39, 40, 41, 255, 256, 1999, 2000, 2001, 65536, MAX - 1, MAX};
    /** The variables behind the instructions of withNumbers, and what is known of them behind those of withFacts. */
    private static final int[] NUMBERS = {7, -3, 20, 2};
    private static final Model.Fact[] FACTS = {
        Model.reduced(3, 5, false, false, true), Model.number(-12),
        Model.reduced(0, 0, false, false, true), Model.reduced(4, 0, false, true, true)};

    public static void main(String[] args) {
        theFirstIsDoneFirstAndThenTheNext();
        jumpsGoElsewhere();
        resultsOfAnyVariables();
        numbersAndVariablesAreNotMixedUp();
        onlyAIsChanged();
        jumpsLookAtA();
        onlyPrintMakesOutputs();
        onlyReadTakesInputs();
        joinOfStatesJoinsAllFacts();
        factsOfResultsInAnyVariables();
        factsOfTheOthersStay();
        waysTellOfAAlone();
        solutionTellsAllThatComes();
        signsAreAddedUp();
        rewriteOfAnyVariables();
        askingChangesNothing();
        strangeArgumentsChangeNothing();
        Due.end();
    }

    private static FactFlow withNumbers() {
        FactFlow x = new FactFlow();
        for (int v = 0; v < 4; v++) {
            x.add(0, v, 0, NUMBERS[v]);
        }
        return x;
    }

    private static int calculated(int operation, int p, int q) {
        return operation == 2 ? p + q : operation == 3 ? p - q : operation == 4 ? p * q : p / q;
    }

    private static void theFirstIsDoneFirstAndThenTheNext() {
        Due.by("Terms: The first instruction is done first, and behind each the next one");
        FactFlow x = new FactFlow();
        for (int i = 0; i < 24; i++) {
            x.add(0, i % 4, 0, 100 + i);
        }
        for (int steps = 0; steps <= 24; steps++) {
            Due.is("run(" + steps + ")", x.run(steps), steps < 24 ? 0 : 1);
            Due.is("next()", x.next(), steps < 24 ? steps : BAD);
            for (int v = 0; v < 4; v++) {
                // The latest of its places that has been done.
                int last = steps - 1 - (steps - 1 - v + 4) % 4;
                Due.is("variable(" + v + ") after " + steps, x.variable(v), last < 0 ? 0 : 100 + last);
            }
        }
        for (int operation : new int[] {0, 1, 2, 3, 4, 5, 6, 10, 12}) {
            FactFlow y = withNumbers();
            y.add(operation, 1, 2, 3);
            y.add(12, 0, 0, 0);
            Due.is("run(5) of " + operation, y.run(5), 0);
            Due.is("next() behind " + operation, y.next(), 5);
        }
    }

    private static void jumpsGoElsewhere() {
        Due.by("Terms: but for jumps; 9 GOTO: goes to c. 11 STOP: the run ends");
        // Five places of three instructions that print their number and go to another one, the last to a STOP.
        FactFlow x = new FactFlow();
        int[] order = {0, 3, 2, 4, 1};
        int[] behind = {3, 5, 4, 2, 1};
        for (int place = 0; place < 5; place++) {
            x.add(0, 0, 0, place);
            x.add(10, 0, 0, 0);
            x.add(9, 0, 0, 3 * behind[place]);
        }
        x.add(11, 0, 0, 0);
        x.add(10, 0, 0, 0);
        Due.is("run", x.run(2000), 1);
        Due.is("steps()", x.steps(), 16);
        Due.is("outputs()", x.outputs(), 5);
        for (int k = 0; k < 5; k++) {
            Due.is("output(" + k + ")", x.output(k), order[k]);
        }
    }

    private static void resultsOfAnyVariables() {
        Due.by("Terms: 2 ADD, 3 SUB, 4 MUL: a gets b + c, b - c, b c (of the variables b and c). 5 DIV: a gets b / c");
        for (int operation = 2; operation <= 5; operation++) {
            for (int a = 0; a < 4; a++) {
                for (int b = 0; b < 4; b++) {
                    for (int c = 0; c < 4; c++) {
                        FactFlow x = withNumbers();
                        x.add(operation, a, b, c);
                        Due.is("run", x.run(5), 1);
                        for (int v = 0; v < 4; v++) {
                            int due = v == a ? calculated(operation, NUMBERS[b], NUMBERS[c]) : NUMBERS[v];
                            Due.is("variable " + v + " by " + operation + ", " + a + ", " + b + ", " + c,
                                    x.variable(v), due);
                        }
                    }
                }
            }
        }
    }

    private static void numbersAndVariablesAreNotMixedUp() {
        Due.by("Terms: 0 SET: a gets the number c. 1 COPY: a gets b");
        for (int v = 0; v < 4; v++) {
            for (int w = 0; w < 4; w++) {
                FactFlow x = withNumbers();
                x.add(0, v, 0, w);
                x.run(5);
                Due.is("SET " + v + " to " + w, x.variable(v), w);
                x.put(4, 1, v, w, 0);
                x.run(5);
                Due.is("COPY to " + v + " from " + w, x.variable(v), NUMBERS[w]);
            }
        }
    }

    private static void onlyAIsChanged() {
        Due.by("Terms: a gets .. ; 12 SKIP: nothing");
        for (int operation = 0; operation <= 12; operation++) {
            for (int a = 0; a < 4; a++) {
                FactFlow x = withNumbers();
                x.input(55);
                boolean jumps = operation >= 7 && operation <= 9;
                x.add(operation, a, 1, jumps ? 4 : 3);
                x.run(5);
                int[] gets = {3, -3, -1, -5, -6, -1, 55};
                for (int v = 0; v < 4; v++) {
                    boolean given = v == a && operation <= 6;
                    Due.is("variable(" + v + ") behind " + operation, x.variable(v),
                            given ? gets[operation] : NUMBERS[v]);
                }
            }
        }
    }

    private static void jumpsLookAtA() {
        Due.by("Terms: 7 IFZERO, 8 IFNEG: goes to the instruction c if a is 0, less than 0");
        for (int operation : new int[] {7, 8}) {
            int jumping = operation == 7 ? 0 : -1;
            for (int one = 0; one < 4; one++) {
                FactFlow x = new FactFlow();
                for (int v = 0; v < 4; v++) {
                    x.add(0, v, 0, v == one ? jumping : 1);
                }
                x.add(12, 0, 0, 0);
                x.add(12, 0, 0, 0);
                x.add(12, 0, 0, 0);
                for (int a = 0; a < 4; a++) {
                    x.put(4, operation, a, 0, 6);
                    x.run(5);
                    Due.is("next() behind " + operation + " of " + a, x.next(), a == one ? 6 : 5);
                }
            }
        }
    }

    private static void onlyPrintMakesOutputs() {
        Due.by("Terms: 10 PRINT: a is an output");
        for (int operation = 0; operation <= 12; operation++) {
            for (int a = 0; a < 4; a++) {
                FactFlow x = withNumbers();
                x.add(operation, a, 0, 3);
                x.run(5);
                Due.is("outputs() behind " + operation, x.outputs(), operation == 10 ? 1 : 0);
                Due.is("output(0) behind " + operation, x.output(0), operation == 10 ? NUMBERS[a] : 0);
            }
        }
    }

    private static void onlyReadTakesInputs() {
        Due.by("Terms: 6 READ: a gets the next input");
        for (int operation = 0; operation <= 12; operation++) {
            if (operation == 9 || operation == 11) {
                continue;
            }
            for (int a = 0; a < 4; a++) {
                FactFlow x = withNumbers();
                x.input(31);
                x.input(32);
                x.add(operation, 3, 0, operation == 7 || operation == 8 ? 5 : 2);
                x.add(6, a, 0, 0);
                x.run(6);
                Due.is("variable(" + a + ") read behind " + operation, x.variable(a), operation == 6 ? 32 : 31);
            }
        }
    }

    private static void joinOfStatesJoinsAllFacts() {
        Due.by("Terms: To join states is to join all their facts");
        FactFlow x = new FactFlow();
        int[] some = {5, 0, -1, 65536}, others = {13, 0, 6, -65536};
        x.add(6, 0, 0, 0);
        x.add(7, 0, 0, 7);
        for (int v = 0; v < 4; v++) {
            x.add(0, v, 0, some[v]);
        }
        x.add(9, 0, 0, 11);
        for (int v = 0; v < 4; v++) {
            x.add(0, v, 0, others[v]);
        }
        x.add(12, 0, 0, 0);
        Due.fact(x, 11, 0, 3, 5, P);
        Due.fact(x, 11, 1, 32, 0, Z);
        Due.fact(x, 11, 2, 0, 0, M | P);
        Due.fact(x, 11, 3, 16, 0, M | P);
        // A third way, on which the variables are as they were at first, but for one.
        x.put(0, 12, 0, 0, 0);
        x.put(1, 6, 3, 0, 0);
        x.put(2, 8, 3, 0, 11);
        x.put(3, 7, 3, 0, 7);
        for (int v = 0; v < 2; v++) {
            x.put(4 + v, 0, v, 0, some[v]);
        }
        Due.fact(x, 11, 0, 0, 0, Z | P);
        Due.fact(x, 11, 1, 32, 0, Z);
        Due.fact(x, 11, 2, 1, 0, Z | P);
        Due.fact(x, 11, 3, 0, 0, M | P);
    }

    /**
     * Of variable 0 three last bits (101) are known, variable 1 is -12, of 2 nothing is known but that it is PLUS,
     * and 3 is 0 or 16. The instruction stands behind, and a SKIP.
     */
    private static FactFlow withFacts(int operation, int a, int b, int c) {
        FactFlow x = new FactFlow();
        Maker.oneOf(x, 0, 5, 13);
        Maker.oneOf(x, 2, 1, 2);
        Maker.oneOf(x, 1, 0, 16);
        x.add(1, 3, 1, 0);
        x.add(0, 1, 0, -12);
        x.add(operation, a, b, c);
        x.add(12, 0, 0, 0);
        return x;
    }

    private static void isFact(FactFlow x, int i, int v, Model.Fact due) {
        Due.fact(x, i, v, due.k(), (int) due.r(), due.mask());
    }

    private static void factsOfResultsInAnyVariables() {
        Due.by("Terms: for 2 to 5 the result for a, for 5 in a state where c has no ZERO");
        for (int operation = 2; operation <= 5; operation++) {
            for (int a = 0; a < 4; a++) {
                for (int b = 0; b < 4; b++) {
                    for (int c = 0; c < 4; c++) {
                        FactFlow x = withFacts(operation, a, b, c);
                        Model.Fact[] due = FACTS.clone();
                        if (operation == 5 && c == 3) {
                            due[3] = Model.reduced(4, 0, false, false, true);
                        }
                        due[a] = Model.result(operation, due[b], due[c]);
                        for (int v = 0; v < 4; v++) {
                            isFact(x, x.length() - 1, v, due[v]);
                        }
                    }
                }
            }
        }
    }

    private static void factsOfTheOthersStay() {
        Due.by("Terms: for 0 the fact of c (32 bits) for a; for 1 that of b; for 6 no bits and all signs; "
                + "else the state itself");
        for (int operation : new int[] {0, 1, 6, 10, 12}) {
            for (int a = 0; a < 4; a++) {
                for (int b = 0; b < 4; b++) {
                    FactFlow x = withFacts(operation, a, b, -9);
                    Model.Fact[] due = FACTS.clone();
                    due[a] = operation == 0 ? Model.number(-9) : operation == 1 ? FACTS[b]
                            : operation == 6 ? new Model.Fact(0, 0, true, true, true) : FACTS[a];
                    for (int v = 0; v < 4; v++) {
                        isFact(x, x.length() - 2, v, FACTS[v]);
                        isFact(x, x.length() - 1, v, due[v]);
                    }
                }
            }
        }
    }

    private static void waysTellOfAAlone() {
        Due.by("Terms: for 7 to the target with only ZERO for a, and to the next with all but ZERO; for 8 likewise");
        // Variable 3 is 0 or 16: at the target it is 0, at the next one 16 (or another with these last bits).
        FactFlow x = withFacts(7, 3, 0, 16);
        x.put(15, 11, 0, 0, 0);
        x.add(12, 0, 0, 0);
        isFact(x, 14, 3, FACTS[3]);
        Due.fact(x, 16, 3, 32, 0, Z);
        Due.fact(x, 15, 3, 4, 0, P);
        othersAreAsBefore(x);
        // Behind a READ in the place of the COPY it may be anything.
        x.put(12, 6, 3, 0, 0);
        x.put(14, 8, 3, 0, 16);
        isFact(x, 14, 3, new Model.Fact(0, 0, true, true, true));
        Due.fact(x, 16, 3, 0, 0, M);
        Due.fact(x, 15, 3, 0, 0, Z | P);
        othersAreAsBefore(x);
    }

    private static void othersAreAsBefore(FactFlow x) {
        for (int v = 0; v < 3; v++) {
            isFact(x, 15, v, FACTS[v]);
            isFact(x, 16, v, FACTS[v]);
        }
    }

    private static void solutionTellsAllThatComes() {
        Due.by("Terms: each one's tells all that comes to it from others");
        // Five ways lead to 11: from 1, 3, 5, 7 (each with another number of variable 1), and from 10.
        FactFlow x = new FactFlow();
        x.add(6, 0, 0, 0);
        x.add(7, 0, 0, 11);
        x.add(0, 1, 0, 64);
        x.add(8, 0, 0, 11);
        x.add(2, 1, 1, 1);
        x.add(7, 2, 0, 11);
        x.add(0, 1, 0, 1);
        x.add(8, 1, 0, 11);
        x.add(12, 0, 0, 0);
        x.add(12, 0, 0, 0);
        x.add(12, 0, 0, 0);
        x.add(10, 1, 0, 0);
        Due.fact(x, 11, 1, 6, 0, Z | P);
        Due.fact(x, 11, 0, 0, 0, ALL);
        Due.is("reached(6)", x.reached(6), false);
        // Variable 2 is not 0 then, so 5 lets all pass, and 1 comes from 10.
        x.put(0, 6, 2, 0, 0);
        x.put(1, 6, 0, 0, 0);
        x.put(3, 8, 2, 0, 11);
        Due.fact(x, 11, 1, 0, 0, P);
        Due.is("reached(6)", x.reached(6), true);
    }

    private static void signsAreAddedUp() {
        Due.by("Promise 10: The signs that it may have, added up; The constants: For MINUS, ZERO and PLUS");
        for (int signs = 1; signs <= 7; signs++) {
            FactFlow x = new FactFlow();
            Maker.oneOf(x, 2, Maker.withSigns(signs));
            x.add(12, 0, 0, 0);
            int due = 0;
            for (int number : Maker.withSigns(signs)) {
                due |= number < 0 ? FactFlow.MINUS : number == 0 ? FactFlow.ZERO : FactFlow.PLUS;
            }
            Due.is("signs", x.signs(x.length() - 1, 2), due);
        }
    }

    private static void rewriteOfAnyVariables() {
        Due.by("Promise 11: 1 to 4, and 5 when c has no ZERO, become 0 SET when the result for a has 32 bits");
        for (int operation = 1; operation <= 5; operation++) {
            for (int a = 0; a < 4; a++) {
                for (int b = 0; b < 4; b++) {
                    for (int c = 0; c < 4; c++) {
                        FactFlow x = withFacts(operation, a, b, c);
                        int at = x.length() - 2;
                        x.rewrite();
                        Model.Fact due = operation == 1 ? FACTS[b] : Model.result(operation, FACTS[b], FACTS[c]);
                        boolean stays = operation == 5 && c == 3 || due.k() != 32;
                        Due.code(x, at, stays ? operation : 0, a, stays ? b : 0,
                                stays ? operation == 1 ? 0 : c : (int) due.r());
                    }
                }
            }
        }
    }

    /** All that can be asked of an object, as one number. */
    private static long asked(FactFlow x) {
        long sum = x.length();
        for (int i = -1; i <= 24; i++) {
            sum = 31 * sum + (x.reached(i) ? 1 : 0);
            for (int v = -1; v <= 4; v++) {
                sum = 31 * sum + x.code(i, v);
                sum = 31 * sum + x.bits(i, v);
                sum = 31 * sum + x.rest(i, v);
                sum = 31 * sum + x.signs(i, v);
            }
        }
        return 31 * sum + told(x);
    }

    private static long told(FactFlow x) {
        long sum = 31L * x.steps() + x.next();
        for (int v = -1; v <= 4; v++) {
            sum = 31 * sum + x.variable(v);
        }
        sum = 31 * sum + x.outputs();
        for (int k = -1; k <= 40; k++) {
            sum = 31 * sum + x.output(k);
        }
        return sum;
    }

    /** A program, inputs and a run, of which all that is asked has something to tell. */
    private static FactFlow used() {
        FactFlow x = withFacts(5, 2, 0, 3);
        x.add(10, 2, 0, 0);
        x.add(9, 0, 0, 0);
        for (int k = 0; k < 15; k++) {
            x.input(3 - k);
        }
        x.run(70);
        return x;
    }

    private static void askingChangesNothing() {
        Due.by("Promises 5 to 10, 15 to 19: (asking changes nothing)");
        FactFlow x = used(), y = used();
        long before = asked(x);
        Due.is("asked again", asked(x), before);
        Due.is("asked of another with the same calls", asked(y), before);
        // What was asked has no part in what comes later.
        FactFlow z = used();
        x.run(99);
        z.run(99);
        x.rewrite();
        z.rewrite();
        Due.is("asked behind run and rewrite", asked(x), asked(z));
    }

    private static void strangeArgumentsChangeNothing() {
        Due.by("Promises 2, 3, 14: BAD, FULL or false (changes nothing)");
        FactFlow x = used();
        while (x.length() < 24) {
            x.add(12, 0, 0, 0);
        }
        long before = asked(x);
        for (int p : STRANGE) {
            for (int q : STRANGE) {
                Due.is("add to a full program", x.add(p, q, q, p) < 0, true);
                Due.is("put without a place", (p < 0 || p > 23) && x.put(p, 12, q, q, q), false);
                Due.is("put of no operation", (p < 0 || p > 12) && x.put(q, p, 0, 0, 0), false);
                Due.is("put of no variable", (q < 0 || q > 3) && x.put(5, 10, q, p, p), false);
                Due.is("put of no target", (q < 0 || q > 24) && x.put(5, 9, p, p, q), false);
                x.code(p, q);
                x.bits(p, q);
                x.rest(p, q);
                x.signs(p, q);
            }
            Due.is("run(" + p + ")", p < 0 || p > 2000 ? x.run(p) : BAD, BAD);
            x.reached(p);
            x.variable(p);
            x.output(p);
        }
        Due.is("asked behind it all", asked(x), before);
    }
}
