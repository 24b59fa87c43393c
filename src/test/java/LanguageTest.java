import java.lang.reflect.Executable;
import java.lang.reflect.Field;
import java.lang.reflect.Method;
import java.lang.reflect.Modifier;
import java.nio.file.Files;
import java.nio.file.Path;
import java.util.ArrayList;
import java.util.Arrays;
import java.util.HashSet;
import java.util.List;
import java.util.Set;
import java.util.regex.Matcher;
import java.util.regex.Pattern;

/** What can be seen of the rules of ../shared/LANGUAGE.md in the class and its text (the face is FaceTest's). */
public final class LanguageTest {
    private static final Path SOURCE = Path.of("src/main/java/FactFlow.java");
    private static final String[] WORDS_LEFT_OUT = {"import", "package", "throw", "throws", "try", "catch", "finally",
        "synchronized", "assert", "volatile", "native", "protected", "var", "System", "Thread", "Object", "float",
        "double", "String", "hashCode", "equals", "toString"};
    private static final Set<String> LIBRARY = Set.of("Math.min", "Math.max", "Integer.numberOfTrailingZeros");
    private static final Set<Class<?>> CONSTANTS = Set.of(int.class, long.class, boolean.class, char.class,
            String.class, int[].class, long[].class, char[].class, byte[].class);

    public static void main(String[] args) throws Exception {
        String text = Files.readString(SOURCE).replaceAll("//[^\n]*", "");
        List<Class<?>> classes = new ArrayList<>(List.of(FactFlow.class));
        classes.addAll(Arrays.asList(FactFlow.class.getDeclaredClasses()));
        classesInside(classes);
        fields(classes);
        methods(classes);
        words(text);
        library(text);
        newOnlyWhereAnObjectIsMade(text);
        shortMethods(text);
        Due.end();
    }

    private static void classesInside(List<Class<?>> classes) {
        Due.by("rules 1, 2, 11");
        Due.is("at most some twelve classes", classes.size() <= 12, true);
        for (Class<?> c : classes.subList(1, classes.size())) {
            int modifiers = c.getModifiers();
            Due.is(c + " is static", Modifier.isStatic(modifiers), true);
            Due.is(c + " is hidden", Modifier.isPublic(modifiers) || Modifier.isProtected(modifiers), false);
            Due.is(c + " has none inside", c.getDeclaredClasses().length, 0);
        }
    }

    private static void fields(List<Class<?>> classes) {
        for (Class<?> c : classes) {
            int own = 0;
            for (Field f : c.getDeclaredFields()) {
                if (!Modifier.isStatic(f.getModifiers())) {
                    own++;
                    continue;
                }
                Due.by("rule 5");
                Due.is(f + " is final", Modifier.isFinal(f.getModifiers()), true);
                Due.is(f + " is a constant", CONSTANTS.contains(f.getType()), true);
            }
            Due.by("rule 11");
            Due.is(c + " has some twenty fields", own <= 20, true);
        }
    }

    private static void methods(List<Class<?>> classes) {
        Set<String> open = new HashSet<>();
        for (Method m : FactFlow.class.getDeclaredMethods()) {
            if (Modifier.isPublic(m.getModifiers())) {
                open.add(m.getName());
            }
        }
        for (Class<?> c : classes) {
            List<Executable> all = new ArrayList<>(Arrays.asList(c.getDeclaredMethods()));
            all.addAll(Arrays.asList(c.getDeclaredConstructors()));
            for (Executable e : all) {
                Due.by("rule 11");
                Due.is(e + " takes at most seven", e.getParameterCount() <= 7, true);
                Due.by("rule 6");
                Due.is(e + " tells of no exception", e.getExceptionTypes().length, 0);
                Due.by("rule 1");
                boolean inside = c != FactFlow.class || Modifier.isPrivate(e.getModifiers());
                Due.is(e + " has a name of its own", inside && open.contains(e.getName()), false);
            }
        }
    }

    private static void words(String text) {
        Due.by("rules 1, 3, 4, 6, 12, 13");
        for (String word : WORDS_LEFT_OUT) {
            Due.is("the word " + word, Pattern.compile("\\b" + word + "\\b").matcher(text).find(), false);
        }
        Due.by("rule 2");
        Due.is("a lambda", text.contains("->"), false);
        Due.is("a method reference", text.contains("::"), false);
    }

    private static void library(String text) {
        Due.by("rule 4");
        Matcher found = Pattern.compile("\\b(Math|Integer|Long|Arrays)\\.\\w+").matcher(text);
        while (found.find()) {
            Due.is(found.group() + " is one of those used", LIBRARY.contains(found.group()), true);
        }
    }

    /** Then a run of calls makes as many objects as its constructor does, however long it is. */
    private static void newOnlyWhereAnObjectIsMade(String text) {
        Due.by("rule 12");
        Pattern inField = Pattern.compile("\\s+(private )?final [\\w\\[\\]]+ \\w+ = new .*");
        Pattern inConstructor = Pattern.compile("\\s+(instructions|facts|states)\\[\\w\\] = new \\w+\\(\\);");
        for (String line : text.split("\n")) {
            if (Pattern.compile("\\bnew\\b").matcher(line).find()) {
                Due.is(line.trim(), inField.matcher(line).matches() || inConstructor.matcher(line).matches(), true);
            }
        }
    }

    private static void shortMethods(String text) {
        Due.by("rule 11");
        String[] lines = text.split("\n");
        Pattern head = Pattern.compile("( {4}| {8})[^ ].*\\) \\{");
        int methods = 0;
        for (int from = 0; from < lines.length; from++) {
            Matcher found = head.matcher(lines[from]);
            if (!found.matches()) {
                continue;
            }
            int to = from;
            while (to < lines.length && !lines[to].equals(found.group(1) + "}")) {
                to++;
            }
            methods++;
            Due.is(lines[from].trim() + " is short", to - from < 60, true);
        }
        Due.is("methods seen", methods > 40, true);
    }
}
