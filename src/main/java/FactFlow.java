public final class FactFlow {
    public static final int BAD = -1;
    public static final int FULL = -2;
    public static final int MINUS = 1, ZERO = 2, PLUS = 4;

    private static final int SET = 0, COPY = 1, ADD = 2, SUB = 3, MUL = 4, DIV = 5, READ = 6;
    private static final int IFZERO = 7, IFNEG = 8, GOTO = 9, PRINT = 10, STOP = 11, SKIP = 12;

    private static final int VARIABLES = 4;
    private static final int MOST_INSTRUCTIONS = 24;
    private static final int MOST_INPUTS = 16;
    private static final int MOST_OUTPUTS = 40;
    private static final int MOST_STEPS = 2000;

    private static final int ALL_BITS = 32;
    private static final int MOST_LAST_BITS = 16;
    private static final int ALL_SIGNS = MINUS | ZERO | PLUS;

    private static final int WOULD_GO_ON = 0, ENDED = 1, FAULT = 2;

    private final Program program = new Program();
    private final Solution solution = new Solution();
    private final Inputs inputs = new Inputs();
    private final Machine machine = new Machine();

    public FactFlow() {
    }

    public int add(int operation, int a, int b, int c) {
        if (!Instruction.isTold(operation, a, b, c)) {
            return BAD;
        }
        if (program.count == MOST_INSTRUCTIONS) {
            return FULL;
        }
        int i = program.count;
        program.instructions[i].become(operation, a, b, c);
        program.count = i + 1;
        solution.found = false;
        return i;
    }

    public boolean put(int i, int operation, int a, int b, int c) {
        if (!program.has(i) || !Instruction.isTold(operation, a, b, c)) {
            return false;
        }
        program.instructions[i].become(operation, a, b, c);
        solution.found = false;
        return true;
    }

    public void clear() {
        program.count = 0;
        solution.found = false;
    }

    public int length() {
        return program.count;
    }

    public int code(int i, int part) {
        return program.has(i) ? program.instructions[i].partOf(part) : BAD;
    }

    public boolean reached(int i) {
        solution.find(program);
        return comesTo(i);
    }

    public int bits(int i, int v) {
        solution.find(program);
        return isVariable(v) && comesTo(i) ? solution.states[i].facts[v].bits : BAD;
    }

    public int rest(int i, int v) {
        solution.find(program);
        return isVariable(v) && comesTo(i) ? solution.states[i].facts[v].rest : 0;
    }

    public int signs(int i, int v) {
        solution.find(program);
        return isVariable(v) && comesTo(i) ? solution.states[i].facts[v].signs : 0;
    }

    public int rewrite() {
        solution.find(program);
        int changed = 0;
        for (int i = 0; i < program.count; i++) {
            if (program.improve(i, solution.states[i])) {
                changed++;
            }
        }
        solution.found = changed == 0;
        return changed;
    }

    public boolean input(int v) {
        return inputs.take(v);
    }

    public void dry() {
        inputs.count = 0;
    }

    public int run(int steps) {
        if (steps < 0 || steps > MOST_STEPS) {
            return BAD;
        }
        return machine.execute(program, inputs, steps);
    }

    public int steps() {
        return machine.done;
    }

    public int next() {
        return machine.following;
    }

    public int variable(int v) {
        return isVariable(v) ? machine.variables[v] : 0;
    }

    public int outputs() {
        return machine.printed;
    }

    public int output(int k) {
        return k >= 0 && k < MOST_OUTPUTS && k < machine.printed ? machine.prints[k] : 0;
    }

    // Once the solution has been found.
    private boolean comesTo(int i) {
        return program.has(i) && !solution.states[i].none;
    }

    private static boolean isVariable(int v) {
        return v >= 0 && v < VARIABLES;
    }

    // For 2 to 5; by 0 nothing is divided, so that no call can throw.
    private static int calculated(int operation, int x, int y) {
        switch (operation) {
            case ADD:
                return x + y;
            case SUB:
                return x - y;
            case MUL:
                return x * y;
            default:
                return y == 0 ? 0 : x / y;
        }
    }

    private static final class Instruction {
        int operation = SKIP;
        int a = 0;
        int b = 0;
        int c = 0;

        static boolean isTold(int operation, int a, int b, int c) {
            if (operation < SET || operation > SKIP) {
                return false;
            }
            if (usesA(operation) && !isVariable(a) || usesB(operation) && !isVariable(b)) {
                return false;
            }
            if (calculates(operation)) {
                return isVariable(c);
            }
            return !jumps(operation) || c >= 0 && c <= MOST_INSTRUCTIONS;
        }

        static boolean usesA(int operation) {
            return operation != GOTO && operation != STOP && operation != SKIP;
        }

        static boolean usesB(int operation) {
            return operation == COPY || calculates(operation);
        }

        static boolean usesC(int operation) {
            return operation == SET || calculates(operation) || jumps(operation);
        }

        static boolean calculates(int operation) {
            return operation >= ADD && operation <= DIV;
        }

        static boolean jumps(int operation) {
            return operation >= IFZERO && operation <= GOTO;
        }

        void become(int newOperation, int newA, int newB, int newC) {
            operation = newOperation;
            a = usesA(newOperation) ? newA : 0;
            b = usesB(newOperation) ? newB : 0;
            c = usesC(newOperation) ? newC : 0;
        }

        int partOf(int part) {
            switch (part) {
                case 0:
                    return operation;
                case 1:
                    return a;
                case 2:
                    return b;
                case 3:
                    return c;
                default:
                    return BAD;
            }
        }

        // The signs with which 7 and 8 go to their target.
        int jumpSigns() {
            return operation == IFZERO ? ZERO : MINUS;
        }
    }

    private static final class Program {
        final Instruction[] instructions = new Instruction[MOST_INSTRUCTIONS];
        int count = 0;
        private final Fact result = new Fact();

        Program() {
            for (int i = 0; i < MOST_INSTRUCTIONS; i++) {
                instructions[i] = new Instruction();
            }
        }

        boolean has(int i) {
            return i >= 0 && i < count;
        }

        // Answers whether the instruction is another one then.
        boolean improve(int i, State state) {
            Instruction it = instructions[i];
            if (state.none) {
                return stopInstead(it);
            }
            if (it.operation == IFZERO || it.operation == IFNEG) {
                return goInstead(it, state.facts[it.a].signs, i + 1);
            }
            if (it.operation == COPY) {
                return setInstead(it, state.facts[it.b]);
            }
            if (!Instruction.calculates(it.operation)) {
                return false;
            }
            // A division that may fault must stay, whatever it would give.
            if (it.operation == DIV && (state.facts[it.c].signs & ZERO) != 0) {
                return false;
            }
            result.becomeResult(it.operation, state.facts[it.b], state.facts[it.c]);
            return setInstead(it, result);
        }

        private static boolean stopInstead(Instruction it) {
            if (it.operation == STOP) {
                return false;
            }
            it.become(STOP, 0, 0, 0);
            return true;
        }

        private static boolean goInstead(Instruction it, int signs, int behind) {
            boolean mayJump = (signs & it.jumpSigns()) != 0;
            boolean mayPass = (signs & ~it.jumpSigns()) != 0;
            if (mayJump && mayPass) {
                return false;
            }
            it.become(GOTO, 0, 0, mayJump ? it.c : behind);
            return true;
        }

        private static boolean setInstead(Instruction it, Fact given) {
            if (given.bits != ALL_BITS) {
                return false;
            }
            it.become(SET, it.a, 0, given.rest);
            return true;
        }
    }

    // What is known of one int; always reduced. Without signs it is NONE.
    private static final class Fact {
        // Rows: the sign of x; columns: that of y; each MINUS, ZERO, PLUS.
        private static final int[] SUM_SIGNS = {7, 1, 7, 1, 2, 4, 7, 4, 5};
        private static final int[] DIFFERENCE_SIGNS = {7, 1, 5, 5, 2, 1, 5, 4, 7};
        private static final int[] PRODUCT_SIGNS = {7, 2, 7, 2, 2, 2, 7, 2, 7};
        // Nothing comes of a division by ZERO.
        private static final int[] QUOTIENT_SIGNS = {7, 0, 3, 2, 0, 2, 3, 0, 6};

        int bits = ALL_BITS;
        int rest = 0;
        int signs = ZERO;

        void becomeNumber(int x) {
            bits = ALL_BITS;
            rest = x;
            signs = ALL_SIGNS;
            reduce();
        }

        void becomeAnything() {
            bits = 0;
            rest = 0;
            signs = ALL_SIGNS;
        }

        void becomeSame(Fact other) {
            bits = other.bits;
            rest = other.rest;
            signs = other.signs;
        }

        // x or y may be this very fact, so nothing is written before all is read.
        void becomeResult(int operation, Fact x, Fact y) {
            int known = operation == MUL ? productBits(x, y) : otherBits(operation, x, y);
            int number = known == 0 ? 0 : calculated(operation, x.rest, y.rest);
            int possible = resultSigns(signTable(operation), x.signs, y.signs);
            bits = known;
            rest = lastBits(number, known);
            signs = possible;
            reduce();
        }

        void keepSigns(int kept) {
            signs &= kept;
            reduce();
        }

        // Answers whether this fact tells more ints then.
        boolean joinWith(Fact other) {
            int difference = rest ^ other.rest;
            int agreed = Math.min(bits, other.bits);
            if (agreed != ALL_BITS || difference != 0) {
                int same = Integer.numberOfTrailingZeros(difference);
                agreed = Math.min(MOST_LAST_BITS, Math.min(agreed, same));
            }
            int both = signs | other.signs;
            boolean more = agreed != bits || both != signs;
            bits = agreed;
            rest = lastBits(rest, agreed);
            signs = both;
            return more;
        }

        private void reduce() {
            if (bits == ALL_BITS) {
                signs &= rest < 0 ? MINUS : rest == 0 ? ZERO : PLUS;
            } else if (rest != 0) {
                signs &= ~ZERO;
            }
            if (signs == ZERO) {
                bits = ALL_BITS;
                rest = 0;
            }
        }

        private static int lastBits(int x, int known) {
            return known == ALL_BITS ? x : x & ((1 << known) - 1);
        }

        private static int otherBits(int operation, Fact x, Fact y) {
            int fewer = Math.min(x.bits, y.bits);
            return operation == DIV && fewer != ALL_BITS ? 0 : fewer;
        }

        private static int productBits(Fact x, Fact y) {
            int byX = x.bits + Integer.numberOfTrailingZeros(y.rest);
            int byY = y.bits + Integer.numberOfTrailingZeros(x.rest);
            int known = Math.min(x.bits + y.bits, Math.min(byX, byY));
            return known >= ALL_BITS ? ALL_BITS : Math.min(MOST_LAST_BITS, known);
        }

        private static int[] signTable(int operation) {
            switch (operation) {
                case ADD:
                    return SUM_SIGNS;
                case SUB:
                    return DIFFERENCE_SIGNS;
                case MUL:
                    return PRODUCT_SIGNS;
                default:
                    return QUOTIENT_SIGNS;
            }
        }

        private static int resultSigns(int[] table, int xSigns, int ySigns) {
            int possible = 0;
            for (int x = 0; x < 3; x++) {
                for (int y = 0; y < 3; y++) {
                    if (((xSigns >> x) & (ySigns >> y) & 1) != 0) {
                        possible |= table[3 * x + y];
                    }
                }
            }
            return possible;
        }
    }

    // A fact for each variable; when it is NONE, they tell nothing.
    private static final class State {
        final Fact[] facts = new Fact[VARIABLES];
        boolean none = true;

        State() {
            for (int v = 0; v < VARIABLES; v++) {
                facts[v] = new Fact();
            }
        }

        void becomeZeros() {
            none = false;
            for (int v = 0; v < VARIABLES; v++) {
                facts[v].becomeNumber(0);
            }
        }

        void becomeSame(State other) {
            none = other.none;
            for (int v = 0; v < VARIABLES; v++) {
                facts[v].becomeSame(other.facts[v]);
            }
        }

        void keepSigns(int v, int kept) {
            facts[v].keepSigns(kept);
            if (facts[v].signs == 0) {
                none = true;
            }
        }

        // For all that goes on to the next instruction alone.
        void goThrough(Instruction it) {
            switch (it.operation) {
                case SET:
                    facts[it.a].becomeNumber(it.c);
                    break;
                case COPY:
                    facts[it.a].becomeSame(facts[it.b]);
                    break;
                case ADD:
                case SUB:
                case MUL:
                    facts[it.a].becomeResult(it.operation, facts[it.b], facts[it.c]);
                    break;
                case DIV:
                    keepSigns(it.c, MINUS | PLUS);
                    if (!none) {
                        facts[it.a].becomeResult(DIV, facts[it.b], facts[it.c]);
                    }
                    break;
                case READ:
                    facts[it.a].becomeAnything();
                    break;
                default:
                    break;
            }
        }

        // Answers whether this state tells more then.
        boolean joinWith(State other) {
            if (other.none) {
                return false;
            }
            if (none) {
                becomeSame(other);
                return true;
            }
            boolean more = false;
            for (int v = 0; v < VARIABLES; v++) {
                if (facts[v].joinWith(other.facts[v])) {
                    more = true;
                }
            }
            return more;
        }
    }

    private static final class Solution {
        // Each pass but the last makes a state tell more. A state can do so once from NONE, and then for
        // each variable 17 times by bits (32, 16, .., 0) and twice by signs: 24 * (1 + 4 * 19) = 1848.
        private static final int MOST_PASSES = 2000;

        final State[] states = new State[MOST_INSTRUCTIONS];
        // Whether the states are those of the program as it is now: many calls may build it before one
        // asks for facts.
        boolean found = false;
        // Whose state tells more than what has been carried on from it.
        private final boolean[] waiting = new boolean[MOST_INSTRUCTIONS];
        private final State coming = new State();

        Solution() {
            for (int i = 0; i < MOST_INSTRUCTIONS; i++) {
                states[i] = new State();
            }
        }

        // All that comes of a state grows with it, so growing from NONE ends at the least states, in
        // whatever order the instructions are taken.
        void find(Program program) {
            if (found) {
                return;
            }
            begin();
            boolean more = true;
            for (int pass = 0; more && pass < MOST_PASSES; pass++) {
                more = false;
                for (int i = 0; i < program.count; i++) {
                    if (waiting[i]) {
                        waiting[i] = false;
                        more = true;
                        carry(program, i);
                    }
                }
            }
            found = true;
        }

        private void begin() {
            for (int i = 0; i < MOST_INSTRUCTIONS; i++) {
                states[i].none = true;
                waiting[i] = false;
            }
            states[0].becomeZeros();
            waiting[0] = true;
        }

        private void carry(Program program, int i) {
            Instruction it = program.instructions[i];
            coming.becomeSame(states[i]);
            switch (it.operation) {
                case STOP:
                    break;
                case GOTO:
                    arrive(program, it.c);
                    break;
                case IFZERO:
                case IFNEG:
                    coming.keepSigns(it.a, it.jumpSigns());
                    arrive(program, it.c);
                    coming.becomeSame(states[i]);
                    coming.keepSigns(it.a, ~it.jumpSigns());
                    arrive(program, i + 1);
                    break;
                default:
                    coming.goThrough(it);
                    arrive(program, i + 1);
                    break;
            }
        }

        private void arrive(Program program, int i) {
            if (program.has(i) && states[i].joinWith(coming)) {
                waiting[i] = true;
            }
        }
    }

    private static final class Inputs {
        final int[] numbers = new int[MOST_INPUTS];
        int count = 0;

        boolean take(int x) {
            if (count == MOST_INPUTS) {
                return false;
            }
            numbers[count] = x;
            count++;
            return true;
        }

        int numberOrZero(int k) {
            return k < count ? numbers[k] : 0;
        }
    }

    // It keeps what the latest run told.
    private static final class Machine {
        final int[] variables = new int[VARIABLES];
        final int[] prints = new int[MOST_OUTPUTS];
        int printed = 0;
        int done = 0;
        int following = BAD;
        private int taken = 0;

        int execute(Program program, Inputs inputs, int limit) {
            begin();
            int at = 0;
            while (done < limit && program.has(at)) {
                Instruction it = program.instructions[at];
                done++;
                if (it.operation == DIV && variables[it.c] == 0) {
                    following = at;
                    return FAULT;
                }
                change(it, inputs);
                at = placeBehind(it, at);
            }
            following = program.has(at) ? at : BAD;
            return program.has(at) ? WOULD_GO_ON : ENDED;
        }

        private void begin() {
            for (int v = 0; v < VARIABLES; v++) {
                variables[v] = 0;
            }
            printed = 0;
            done = 0;
            taken = 0;
        }

        private void change(Instruction it, Inputs inputs) {
            switch (it.operation) {
                case SET:
                    variables[it.a] = it.c;
                    break;
                case COPY:
                    variables[it.a] = variables[it.b];
                    break;
                case ADD:
                case SUB:
                case MUL:
                case DIV:
                    variables[it.a] = calculated(it.operation, variables[it.b], variables[it.c]);
                    break;
                case READ:
                    variables[it.a] = inputs.numberOrZero(taken);
                    taken++;
                    break;
                case PRINT:
                    print(variables[it.a]);
                    break;
                default:
                    break;
            }
        }

        private void print(int x) {
            if (printed < MOST_OUTPUTS) {
                prints[printed] = x;
            }
            printed++;
        }

        private int placeBehind(Instruction it, int at) {
            switch (it.operation) {
                case IFZERO:
                    return variables[it.a] == 0 ? it.c : at + 1;
                case IFNEG:
                    return variables[it.a] < 0 ? it.c : at + 1;
                case GOTO:
                    return it.c;
                case STOP:
                    return MOST_INSTRUCTIONS;
                default:
                    return at + 1;
            }
        }
    }
}
