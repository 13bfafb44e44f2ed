import java.io.IOException;
import java.lang.reflect.Constructor;
import java.lang.reflect.Field;
import java.lang.reflect.Method;
import java.lang.reflect.Modifier;
import java.nio.file.Files;
import java.nio.file.Path;
import java.util.Arrays;
import java.util.List;
import java.util.TreeSet;
import java.util.regex.Matcher;
import java.util.regex.Pattern;

/** The public face of the document, and what LANGUAGE.md rules out in the source. */
public final class FaceTest {
    private static final List<String> FACE = List.of(
        "public CarThreads()",
        "public int CarThreads.node(int,int)",
        "public boolean CarThreads.waits(int,int,int)",
        "public void CarThreads.turn(int)",
        "public int CarThreads.run()",
        "public int CarThreads.log(int)",
        "public int CarThreads.safe(int)",
        "public int CarThreads.cut(int,long)",
        "public boolean CarThreads.interrupt(int)",
        "public int CarThreads.held(int,int)",
        "public int CarThreads.barrier(int)",
        "public int CarThreads.finished(int)",
        "public int CarThreads.close()");
    private static final List<String> RULED_OUT = List.of(
        "\\b(throw|throws|try|catch|finally|synchronized|assert|volatile|package)\\b",
        "\\bimport (?!java\\.util\\.(ArrayList|List|Arrays|Iterator);)",
        "->", "::", "\\b(equals|hashCode|toString|getClass|currentTimeMillis|nanoTime)\\b",
        "\\w+Exact\\b", "\\bThread\\b", "\\b(Object|var)\\b");

    public static void main(String[] args) throws IOException {
        Due due = new Due();
        faceIsTheDocuments(due);
        noPrivateMethodBearsAPublicName(due);
        staticsAreFinal(due);
        sourceKeepsToTheLanguage(due);
        due.end();
    }

    private static void faceIsTheDocuments(Due due) {
        TreeSet<String> seen = new TreeSet<>();
        for (Constructor<?> c : CarThreads.class.getDeclaredConstructors()) {
            if (!Modifier.isPrivate(c.getModifiers())) {
                seen.add(c.toString());
            }
        }
        for (Method m : CarThreads.class.getDeclaredMethods()) {
            if (!Modifier.isPrivate(m.getModifiers())) {
                seen.add(m.toString());
            }
        }
        for (Field f : CarThreads.class.getDeclaredFields()) {
            if (!Modifier.isPrivate(f.getModifiers())) {
                seen.add(f.toString());
            }
        }
        due.is("the face is " + seen + ": as in the document", seen.equals(new TreeSet<>(FACE)), true);
        int modifiers = CarThreads.class.getModifiers();
        due.is("public and final", Modifier.isPublic(modifiers) && Modifier.isFinal(modifiers), true);
        for (Class<?> inside : CarThreads.class.getDeclaredClasses()) {
            due.is(inside + " is static", Modifier.isStatic(inside.getModifiers()), true);
            due.is(inside + " is public", Modifier.isPublic(inside.getModifiers()), false);
        }
    }

    private static void noPrivateMethodBearsAPublicName(Due due) {
        Method[] methods = CarThreads.class.getDeclaredMethods();
        long names = Arrays.stream(methods).map(Method::getName).distinct().count();
        due.is("names of methods", names, methods.length);
    }

    private static void staticsAreFinal(Due due) {
        for (Field f : CarThreads.class.getDeclaredFields()) {
            if (Modifier.isStatic(f.getModifiers())) {
                due.is(f + " is final", Modifier.isFinal(f.getModifiers()), true);
            }
        }
    }

    private static void sourceKeepsToTheLanguage(Due due) throws IOException {
        String source = Files.readString(Path.of("src/main/java/CarThreads.java"));
        String code = source.replaceAll("(?s)/\\*.*?\\*/", " ").replaceAll("//.*", " ");
        for (String pattern : RULED_OUT) {
            Matcher found = Pattern.compile(pattern).matcher(code);
            if (found.find()) {
                due.is("the source has '" + found.group() + "'", true, false);
            }
        }
    }
}
