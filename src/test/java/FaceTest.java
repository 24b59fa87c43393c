import java.lang.management.ManagementFactory;
import java.lang.reflect.Constructor;
import java.lang.reflect.Field;
import java.lang.reflect.Method;
import java.lang.reflect.Modifier;
import java.util.Set;
import java.util.TreeSet;

/** The public face, the constants, and that calls make no objects (all calls live in one room). */
public final class FaceTest {
    private static final Set<String> FACE = Set.of(
            "int add(int,int,int,int)", "boolean put(int,int,int,int,int)", "void clear()", "int length()",
            "int code(int,int)", "boolean reached(int)", "int bits(int,int)", "int rest(int,int)",
            "int signs(int,int)", "int rewrite()", "boolean input(int)", "void dry()", "int run(int)",
            "int steps()", "int next()", "int variable(int)", "int outputs()", "int output(int)");
    private static final Set<String> CONSTANTS = Set.of("BAD", "FULL", "MINUS", "ZERO", "PLUS");

    public static void main(String[] args) {
        constants();
        theClass();
        methods();
        fields();
        callsMakeNoObjects();
        Due.end();
    }

    private static void constants() {
        Due.is("BAD", FactFlow.BAD, -1);
        Due.is("FULL", FactFlow.FULL, -2);
        Due.is("MINUS", FactFlow.MINUS, 1);
        Due.is("ZERO", FactFlow.ZERO, 2);
        Due.is("PLUS", FactFlow.PLUS, 4);
    }

    private static void theClass() {
        Due.is("public final", FactFlow.class.getModifiers(), Modifier.PUBLIC | Modifier.FINAL);
        Constructor<?>[] made = FactFlow.class.getDeclaredConstructors();
        Due.is("constructors", made.length, 1);
        Due.is("public constructor", made[0].getModifiers(), Modifier.PUBLIC);
        Due.is("its parameters", made[0].getParameterCount(), 0);
    }

    private static void methods() {
        Set<String> found = new TreeSet<>();
        Set<String> names = new TreeSet<>();
        for (Method m : FactFlow.class.getDeclaredMethods()) {
            if (!Modifier.isPrivate(m.getModifiers())) {
                found.add(signature(m));
                names.add(m.getName());
                Due.is("modifiers of " + m.getName(), m.getModifiers(), Modifier.PUBLIC);
            }
        }
        Due.is("methods " + found, found.equals(FACE), true);
        for (Method m : FactFlow.class.getDeclaredMethods()) {
            boolean hidden = Modifier.isPrivate(m.getModifiers());
            Due.is("private " + m.getName(), hidden && names.contains(m.getName()), false);
        }
    }

    private static String signature(Method m) {
        StringBuilder text = new StringBuilder(m.getReturnType() + " " + m.getName() + "(");
        for (Class<?> type : m.getParameterTypes()) {
            text.append(text.charAt(text.length() - 1) == '(' ? "" : ",").append(type);
        }
        return text.append(")").toString();
    }

    private static void fields() {
        Set<String> found = new TreeSet<>();
        for (Field f : FactFlow.class.getDeclaredFields()) {
            if (!Modifier.isPrivate(f.getModifiers())) {
                found.add(f.getName());
                Due.is("modifiers of " + f.getName(), f.getModifiers(),
                        Modifier.PUBLIC | Modifier.STATIC | Modifier.FINAL);
            }
        }
        Due.is("constants " + found, found.equals(CONSTANTS), true);
    }

    private static void callsMakeNoObjects() {
        com.sun.management.ThreadMXBean threads =
                (com.sun.management.ThreadMXBean) ManagementFactory.getThreadMXBean();
        FactFlow x = new FactFlow();
        callAll(x);
        long before = threads.getCurrentThreadAllocatedBytes();
        for (int round = 0; round < 50; round++) {
            callAll(x);
        }
        long made = threads.getCurrentThreadAllocatedBytes() - before;
        Due.is("few bytes made, " + made, made < 4096, true);
    }

    private static void callAll(FactFlow x) {
        x.clear();
        x.dry();
        x.input(5);
        x.add(6, 0, 0, 0);
        x.add(0, 1, 0, 3);
        x.add(4, 2, 2, 1);
        x.add(5, 2, 2, 0);
        x.add(3, 0, 0, 1);
        x.add(10, 0, 0, 0);
        x.add(8, 0, 0, 2);
        x.add(7, 1, 0, 2);
        x.add(9, 0, 0, 2);
        x.put(1, 0, 1, 0, 5);
        x.reached(3);
        x.bits(3, 0);
        x.rest(3, 0);
        x.signs(3, 0);
        x.rewrite();
        x.code(0, 0);
        x.length();
        x.run(2000);
        x.steps();
        x.next();
        x.variable(0);
        x.outputs();
        x.output(0);
    }
}
