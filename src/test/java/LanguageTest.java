import java.io.IOException;
import java.lang.reflect.Constructor;
import java.lang.reflect.Executable;
import java.lang.reflect.Field;
import java.lang.reflect.Method;
import java.lang.reflect.Modifier;
import java.nio.file.Files;
import java.nio.file.Path;
import java.util.ArrayList;
import java.util.Arrays;
import java.util.List;
import java.util.Set;
import java.util.regex.Matcher;
import java.util.regex.Pattern;

/** The rules of LANGUAGE.md that can be read off the class and its source (rule 1: see FaceTest). */
public final class LanguageTest {
    private static final Path SOURCE = Path.of("src/main/java/CarThreads.java");
    private static final List<String> RULED_OUT = List.of(
        "\\b(throw|throws|try|catch|finally|synchronized|assert|volatile|package|native)\\b",
        "\\bimport (?!java\\.util\\.(ArrayList|List|Arrays|Iterator);)",
        "->", "::", "\\b(equals|hashCode|toString|getClass|currentTimeMillis|nanoTime)\\b",
        "\\w+Exact\\b", "\\b(Thread|Runtime|Object|var)\\b",
        "\\bSystem\\.(?!arraycopy\\b)", "\\bMath\\.random\\b",
        "while \\(true\\)", "for \\([^;]*;\\s*;", "\\bstatic \\{");
    private static final Set<Class<?>> NUMBERS = Set.of(
        int.class, long.class, short.class, byte.class, char.class, boolean.class, double.class,
        float.class);
    private static final Set<Class<?>> CONSTANTS = Set.of(
        int.class, long.class, boolean.class, char.class, String.class,
        int[].class, long[].class, char[].class, byte[].class);
    private static final Set<String> LIBRARY = Set.of(
        "java.lang.String", "java.lang.StringBuilder", "java.lang.Integer", "java.util.ArrayList",
        "java.util.List");
    private static final int MOST_PARAMETERS = 7;
    private static final int MOST_CLASSES = 12;
    private static final int MOST_FIELDS = 20;
    private static final int MOST_LINES = 60;

    public static void main(String[] args) throws IOException {
        Due due = new Due();
        List<Class<?>> classes = Arrays.asList(CarThreads.class.getNestMembers());
        due.is("rule 11: some twelve classes", classes.size() <= MOST_CLASSES, true);
        for (Class<?> c : classes) {
            if (c != CarThreads.class) {
                classInside(due, c);
            }
            fieldsOf(due, c);
            for (Executable e : executables(c)) {
                takesAndGives(due, e);
            }
        }
        sourceHasNothingRuledOut(due);
        methodsAreShort(due);
        due.end();
    }

    /** Rules 1 and 2: member classes, static, and not to be seen from outside the package. */
    private static void classInside(Due due, Class<?> c) {
        int modifiers = c.getModifiers();
        due.is("rule 2: " + c + " is a member, not local", c.isMemberClass(), true);
        due.is("rule 2: " + c + " is static", Modifier.isStatic(modifiers), true);
        due.is("rule 1: " + c + " is public", Modifier.isPublic(modifiers), false);
        due.is("rule 1: " + c + " is protected", Modifier.isProtected(modifiers), false);
    }

    /** Rules 3, 5 and 11. */
    private static void fieldsOf(Due due, Class<?> c) {
        int own = 0;
        for (Field f : c.getDeclaredFields()) {
            due.is("rule 3: the type of " + f, mayStand(f.getType()), true);
            if (Modifier.isStatic(f.getModifiers())) {
                due.is("rule 5: " + f + " is final", Modifier.isFinal(f.getModifiers()), true);
                due.is("rule 5: the type of " + f, CONSTANTS.contains(f.getType()), true);
            } else {
                own++;
            }
        }
        due.is("rule 11: some twenty fields of " + c, own <= MOST_FIELDS, true);
    }

    private static List<Executable> executables(Class<?> c) {
        List<Executable> all = new ArrayList<>();
        for (Constructor<?> made : c.getDeclaredConstructors()) {
            all.add(made);
        }
        all.addAll(Arrays.asList(c.getDeclaredMethods()));
        return all;
    }

    /** Rules 3 and 11; what javac makes of a lambda is synthetic (rule 2). */
    private static void takesAndGives(Due due, Executable e) {
        due.is("rule 2: " + e + " is synthetic", e.isSynthetic(), false);
        due.is("rule 11: parameters of " + e, e.getParameterCount() <= MOST_PARAMETERS, true);
        for (Class<?> taken : e.getParameterTypes()) {
            due.is("rule 3: " + taken + " of " + e, mayStand(taken), true);
        }
        if (e instanceof Method m && m.getReturnType() != void.class) {
            due.is("rule 3: " + m.getReturnType() + " of " + e, mayStand(m.getReturnType()), true);
        }
    }

    /** Rule 3: arrays have one dimension, those of numbers two at most. */
    private static boolean mayStand(Class<?> type) {
        if (!type.isArray()) {
            return NUMBERS.contains(type) || LIBRARY.contains(type.getName()) || isOwn(type);
        }
        Class<?> part = type.getComponentType();
        if (part.isArray()) {
            return NUMBERS.contains(part.getComponentType());
        }
        return NUMBERS.contains(part) || isOwn(part);
    }

    private static boolean isOwn(Class<?> type) {
        return type.getNestHost() == CarThreads.class;
    }

    /** Rules 2, 4, 5, 6, 9 and 13. */
    private static void sourceHasNothingRuledOut(Due due) throws IOException {
        String source = Files.readString(SOURCE);
        String code = source.replaceAll("(?s)/\\*.*?\\*/", " ").replaceAll("//.*", " ");
        for (String pattern : RULED_OUT) {
            Matcher found = Pattern.compile(pattern).matcher(code);
            if (found.find()) {
                due.is("the source has '" + found.group() + "'", true, false);
            }
        }
    }

    /** Rule 11: a method goes from the line that opens it to the brace in the same column. */
    private static void methodsAreShort(Due due) throws IOException {
        List<String> lines = Files.readAllLines(SOURCE);
        Pattern opens = Pattern.compile("( {4}| {8})[\\w\\[\\]<> ]+\\(.*\\) \\{");
        int methods = 0;
        for (int i = 0; i < lines.size(); i++) {
            Matcher found = opens.matcher(lines.get(i));
            if (found.matches() && !lines.get(i).matches(" +(if|for|while|switch|} else).*")) {
                methods++;
                int length = lines.subList(i, lines.size()).indexOf(found.group(1) + "}") + 1;
                due.is("rule 11: " + lines.get(i).strip() + " .. " + length + " lines",
                    length >= 1 && length <= MOST_LINES, true);
            }
        }
        due.is("methods were found", methods >= CarThreads.class.getDeclaredMethods().length, true);
    }
}
