/** Compares answers with those that are due, and ends a test with exit code 1 if one was wrong. */
final class Due {
    private static int seen = 0;
    private static int wrong = 0;
    private static String sentence = "";

    private Due() {
    }

    /** The sentence of the document that the answers below are due by; told with each wrong one. */
    static void by(String words) {
        sentence = " (" + words + ")";
    }

    static void is(String what, long got, long due) {
        seen++;
        if (got != due) {
            wrong++;
            // A broken rule can spoil thousands of answers; the first ones tell enough.
            if (wrong <= 30) {
                System.out.println(what + " answered " + got + ", due is " + due + sentence);
            }
        }
    }

    static void is(String what, boolean got, boolean due) {
        is(what, got ? 1 : 0, due ? 1 : 0);
    }

    /** What is known of a variable before an instruction, all three answers at once. */
    static void fact(FactFlow x, int i, int v, int bits, int rest, int signs) {
        String where = "(" + i + ", " + v + ")";
        is("bits" + where, x.bits(i, v), bits);
        is("rest" + where, x.rest(i, v), rest);
        is("signs" + where, x.signs(i, v), signs);
    }

    /** All four parts of an instruction. */
    static void code(FactFlow x, int i, int operation, int a, int b, int c) {
        is("code(" + i + ", 0)", x.code(i, 0), operation);
        is("code(" + i + ", 1)", x.code(i, 1), a);
        is("code(" + i + ", 2)", x.code(i, 2), b);
        is("code(" + i + ", 3)", x.code(i, 3), c);
    }

    static void end() {
        System.out.println(seen + " answers, " + wrong + " of them wrong");
        if (wrong != 0) {
            System.exit(1);
        }
    }
}
