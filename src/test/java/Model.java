import java.util.ArrayList;
import java.util.Arrays;
import java.util.List;

/**
 * The document once more, as plainly and as unlike the program as can be: immutable facts, signs as
 * the numbers -1, 0, 1, longs, and a solution that is begun anew from all instructions in each round.
 */
final class Model {
    record Fact(int k, long r, boolean minus, boolean zero, boolean plus) {
        boolean has(int sign) {
            return sign < 0 ? minus : sign == 0 ? zero : plus;
        }

        int mask() {
            return (minus ? 1 : 0) + (zero ? 2 : 0) + (plus ? 4 : 0);
        }
    }

    static final int[] SIGNS = {-1, 0, 1};

    final List<int[]> program = new ArrayList<>();
    final List<Integer> inputs = new ArrayList<>();
    int steps = 0, next = -1;
    int[] variables = new int[4];
    List<Integer> printed = new ArrayList<>();

    /** NONE is null. */
    static Fact reduced(int k, long r, boolean minus, boolean zero, boolean plus) {
        if (k == 32) {
            minus &= r < 0;
            zero &= r == 0;
            plus &= r > 0;
        }
        zero &= r == 0;
        if (!minus && !zero && !plus) {
            return null;
        }
        if (!minus && !plus) {
            return new Fact(32, 0, false, true, false);
        }
        return new Fact(k, r, minus, zero, plus);
    }

    static Fact number(int x) {
        return reduced(32, x, true, true, true);
    }

    static long cut(long x, int k) {
        return k == 32 ? (int) x : Math.floorMod(x, 1L << k);
    }

    static Fact join(Fact x, Fact y) {
        boolean minus = x.minus || y.minus, zero = x.zero || y.zero, plus = x.plus || y.plus;
        if (x.k == 32 && y.k == 32 && x.r == y.r) {
            return new Fact(32, x.r, minus, zero, plus);
        }
        int k = 0;
        while (k < 16 && k < x.k && k < y.k && cut(x.r, k + 1) == cut(y.r, k + 1)) {
            k++;
        }
        return new Fact(k, cut(x.r, k), minus, zero, plus);
    }

    static int zeros(long r) {
        int z = 0;
        while (z < 32 && Math.floorMod(r, 1L << (z + 1)) == 0) {
            z++;
        }
        return z;
    }

    /** The signs of a result as "-0+" texts. */
    static String signs(int operation, int x, int y) {
        switch (operation) {
            case 2:
                return x == 0 ? text(y) : y == 0 ? text(x) : x > 0 && y > 0 ? "-+" : "-0+";
            case 3:
                if (y == 0) {
                    return text(x);
                }
                if (x == 0) {
                    return y < 0 ? "-+" : "-";
                }
                return x != y ? "-+" : "-0+";
            case 4:
                return x == 0 || y == 0 ? "0" : "-0+";
            default:
                if (x == 0) {
                    return "0";
                }
                return x > 0 && y > 0 ? "0+" : x < 0 && y < 0 ? "-0+" : "-0";
        }
    }

    static String text(int sign) {
        return sign < 0 ? "-" : sign == 0 ? "0" : "+";
    }

    static Fact result(int operation, Fact x, Fact y) {
        StringBuilder all = new StringBuilder();
        for (int s : SIGNS) {
            for (int t : SIGNS) {
                if (x.has(s) && y.has(t)) {
                    all.append(signs(operation, s, t));
                }
            }
        }
        int k = 0;
        long r = 0;
        if (operation == 2 || operation == 3) {
            k = Math.min(x.k, y.k);
            r = operation == 2 ? x.r + y.r : x.r - y.r;
        } else if (operation == 4) {
            k = Math.min(Math.min(x.k + zeros(y.r), y.k + zeros(x.r)), x.k + y.k);
            k = k >= 32 ? 32 : k > 16 ? 16 : k;
            r = x.r * y.r;
        } else if (x.k == 32 && y.k == 32) {
            k = 32;
            r = x.r / y.r;
        }
        String found = all.toString();
        return reduced(k, cut(r, k), found.contains("-"), found.contains("0"), found.contains("+"));
    }

    static Fact[] with(Fact[] state, int v, Fact fact) {
        if (fact == null) {
            return null;
        }
        Fact[] other = state.clone();
        other[v] = fact;
        return other;
    }

    static Fact keep(Fact f, boolean minus, boolean zero, boolean plus) {
        return reduced(f.k, f.r, f.minus && minus, f.zero && zero, f.plus && plus);
    }

    /** {to the target, to the next}; null is NONE. */
    static Fact[][] comes(Fact[] s, int[] it) {
        int a = it[1], b = it[2], c = it[3];
        switch (it[0]) {
            case 0:
                return new Fact[][] {null, with(s, a, number(c))};
            case 1:
                return new Fact[][] {null, with(s, a, s[b])};
            case 2: case 3: case 4:
                return new Fact[][] {null, with(s, a, result(it[0], s[b], s[c]))};
            case 5:
                Fact[] t = with(s, c, keep(s[c], true, false, true));
                return new Fact[][] {null, t == null ? null : with(t, a, result(5, t[b], t[c]))};
            case 6:
                return new Fact[][] {null, with(s, a, new Fact(0, 0, true, true, true))};
            case 7:
                return new Fact[][] {with(s, a, keep(s[a], false, true, false)),
                        with(s, a, keep(s[a], true, false, true))};
            case 8:
                return new Fact[][] {with(s, a, keep(s[a], true, false, false)),
                        with(s, a, keep(s[a], false, true, true))};
            case 9:
                return new Fact[][] {s, null};
            case 11:
                return new Fact[][] {null, null};
            default:
                return new Fact[][] {null, s};
        }
    }

    static Fact[] joined(Fact[] x, Fact[] y) {
        if (x == null || y == null) {
            return x == null ? y : x;
        }
        Fact[] all = new Fact[4];
        for (int v = 0; v < 4; v++) {
            all[v] = join(x[v], y[v]);
        }
        return all;
    }

    /** Rounds from the last instruction to the first, each all anew from the states of the one before. */
    Fact[][] solution() {
        int n = program.size();
        Fact[][] states = new Fact[n][];
        for (int round = 0; round < 5000; round++) {
            Fact[][] later = new Fact[n][];
            if (n > 0) {
                later[0] = new Fact[] {number(0), number(0), number(0), number(0)};
            }
            for (int i = n - 1; i >= 0; i--) {
                if (states[i] == null) {
                    continue;
                }
                Fact[][] ways = comes(states[i], program.get(i));
                int target = program.get(i)[3];
                if (ways[0] != null && target < n) {
                    later[target] = joined(later[target], ways[0]);
                }
                if (i + 1 < n) {
                    later[i + 1] = joined(later[i + 1], ways[1]);
                }
            }
            if (Arrays.deepEquals(states, later)) {
                return states;
            }
            states = later;
        }
        throw new IllegalStateException("no end of rounds");
    }

    static boolean good(int operation, int a, int b, int c) {
        if (operation < 0 || operation > 12) {
            return false;
        }
        boolean good = true;
        if (operation <= 8 || operation == 10) {
            good = a >= 0 && a <= 3;
        }
        if (operation >= 1 && operation <= 5) {
            good &= b >= 0 && b <= 3;
        }
        if (operation >= 2 && operation <= 5) {
            good &= c >= 0 && c <= 3;
        }
        if (operation >= 7 && operation <= 9) {
            good &= c >= 0 && c <= 24;
        }
        return good;
    }

    static int[] plain(int operation, int a, int b, int c) {
        switch (operation) {
            case 0: case 7: case 8:
                return new int[] {operation, a, 0, c};
            case 1:
                return new int[] {1, a, b, 0};
            case 2: case 3: case 4: case 5:
                return new int[] {operation, a, b, c};
            case 6: case 10:
                return new int[] {operation, a, 0, 0};
            case 9:
                return new int[] {9, 0, 0, c};
            default:
                return new int[] {operation, 0, 0, 0};
        }
    }

    int add(int operation, int a, int b, int c) {
        if (!good(operation, a, b, c)) {
            return -1;
        }
        if (program.size() == 24) {
            return -2;
        }
        program.add(plain(operation, a, b, c));
        return program.size() - 1;
    }

    boolean put(int i, int operation, int a, int b, int c) {
        if (i < 0 || i >= program.size() || !good(operation, a, b, c)) {
            return false;
        }
        program.set(i, plain(operation, a, b, c));
        return true;
    }

    int rewrite() {
        Fact[][] states = solution();
        int changed = 0;
        for (int i = 0; i < program.size(); i++) {
            int[] is = program.get(i);
            int[] becomes = rewritten(i, is, states[i]);
            program.set(i, becomes);
            changed += Arrays.equals(is, becomes) ? 0 : 1;
        }
        return changed;
    }

    private static int[] rewritten(int i, int[] it, Fact[] s) {
        if (s == null) {
            return new int[] {11, 0, 0, 0};
        }
        Fact[][] ways = comes(s, it);
        int operation = it[0];
        if (operation >= 1 && operation <= 4 || operation == 5 && !s[it[3]].zero) {
            Fact given = ways[1][it[1]];
            return given.k == 32 ? new int[] {0, it[1], 0, (int) given.r} : it;
        }
        if (operation == 7 || operation == 8) {
            if (ways[0] == null) {
                return new int[] {9, 0, 0, i + 1};
            }
            if (ways[1] == null) {
                return new int[] {9, 0, 0, it[3]};
            }
        }
        return it;
    }

    boolean input(int v) {
        return inputs.size() < 16 && inputs.add(v);
    }

    int run(int most) {
        if (most < 0 || most > 2000) {
            return -1;
        }
        steps = 0;
        next = -1;
        variables = new int[4];
        printed = new ArrayList<>();
        List<Integer> left = new ArrayList<>(inputs);
        int at = 0;
        while (at < program.size()) {
            if (steps == most) {
                next = at;
                return 0;
            }
            steps++;
            int[] it = program.get(at);
            int a = it[1], b = it[2], c = it[3];
            at++;
            switch (it[0]) {
                case 0 -> variables[a] = c;
                case 1 -> variables[a] = variables[b];
                case 2 -> variables[a] = (int) ((long) variables[b] + variables[c]);
                case 3 -> variables[a] = (int) ((long) variables[b] - variables[c]);
                case 4 -> variables[a] = (int) ((long) variables[b] * variables[c]);
                case 5 -> {
                    if (variables[c] == 0) {
                        next = at - 1;
                        return 2;
                    }
                    variables[a] = (int) ((long) variables[b] / variables[c]);
                }
                case 6 -> variables[a] = left.isEmpty() ? 0 : left.remove(0);
                case 7 -> at = variables[a] == 0 ? c : at;
                case 8 -> at = variables[a] < 0 ? c : at;
                case 9 -> at = c;
                case 10 -> printed.add(variables[a]);
                case 11 -> at = 99;
                default -> { }
            }
        }
        return 1;
    }
}
