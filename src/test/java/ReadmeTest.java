import java.io.IOException;
import java.lang.reflect.Method;
import java.lang.reflect.Modifier;
import java.nio.file.Files;
import java.nio.file.Path;
import java.util.List;
import java.util.regex.Matcher;
import java.util.regex.Pattern;

/** README.md tells the truth: its example, call by call, and every call and test by its name. */
public final class ReadmeTest {
    private static final Pattern CALL = Pattern.compile("x\\.(\\w+)\\(([^)]*)\\); +// (-?\\w+)(:| ).*");

    public static void main(String[] args) throws IOException, ReflectiveOperationException {
        Due due = new Due();
        String readme = Files.readString(Path.of("README.md"));
        theExampleAnswersAsItSays(due, readme.lines().toList());
        eachCallStandsThere(due, readme);
        eachTestStandsThere(due, readme);
        due.end();
    }

    private static Method calledBy(String name) {
        for (Method m : CarThreads.class.getDeclaredMethods()) {
            if (Modifier.isPublic(m.getModifiers()) && m.getName().equals(name)) {
                return m;
            }
        }
        throw new IllegalStateException("README.md calls " + name);
    }

    /** A line of the example is "x.name(1, 2);  // answer: why"; turn, which answers none, has words. */
    private static void theExampleAnswersAsItSays(Due due, List<String> lines)
            throws ReflectiveOperationException {
        CarThreads x = new CarThreads();
        int calls = 0;
        for (String line : lines) {
            Matcher found = CALL.matcher(line);
            if (found.matches()) {
                calls++;
                Object answer = answer(x, calledBy(found.group(1)), found.group(2));
                String said = answer == null ? "null" : found.group(3);
                due.is("'" + line + "' answered " + answer, said.equals(String.valueOf(answer)), true);
            }
        }
        due.is("the example has calls", calls >= 16, true);
    }

    private static Object answer(CarThreads x, Method called, String told)
            throws ReflectiveOperationException {
        String[] parts = told.isEmpty() ? new String[0] : told.split(", ");
        Object[] given = new Object[parts.length];
        for (int i = 0; i < parts.length; i++) {
            boolean isLong = called.getParameterTypes()[i] == long.class;
            if (isLong) {
                given[i] = Long.valueOf(parts[i]);
            } else {
                given[i] = Integer.valueOf(parts[i]);
            }
        }
        return called.invoke(x, given);
    }

    private static void eachCallStandsThere(Due due, String readme) {
        due.is("CarThreads()", readme.contains("`CarThreads()`"), true);
        for (Method m : CarThreads.class.getDeclaredMethods()) {
            if (Modifier.isPublic(m.getModifiers())) {
                String begins = "| `" + m.getReturnType() + " " + m.getName() + "(";
                due.is("README.md has " + begins, readme.contains(begins), true);
            }
        }
        due.is("how many calls", readme.contains("at most 512 calls"), true);
        due.is("how tests are run", readme.contains("    .ci/run\n"), true);
    }

    private static void eachTestStandsThere(Due due, String readme) throws IOException {
        try (var files = Files.newDirectoryStream(Path.of("src/test/java"), "*Test.java")) {
            for (Path file : files) {
                String name = file.getFileName().toString().replace(".java", "");
                boolean inARow = name.matches("(Promise|Edge)\\d\\d.*");
                due.is("README.md has " + name, inARow || readme.contains("`" + name + "`"), true);
            }
        }
    }
}
