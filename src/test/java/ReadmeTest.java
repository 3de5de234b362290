import java.io.File;
import java.io.IOException;
import java.lang.reflect.Method;
import java.lang.reflect.Modifier;
import java.nio.file.Files;
import java.nio.file.Path;
import java.util.regex.Matcher;
import java.util.regex.Pattern;

/** README.md tells what is so: the rows of its examples are called, and each call and each test is named in it. */
public final class ReadmeTest {
    private static final Pattern ROW = Pattern.compile(" {4}court\\.(\\w+)\\((.*)\\); +// (-?\\d+|[A-Z_]+)(:.*)?");
    private static final int FEWEST_ROWS = 30;

    public static void main(String[] args) throws IOException, ReflectiveOperationException {
        Path readme = Path.of("README.md");
        examples(readme);
        names(Files.readString(readme));
        Check.end();
    }

    private static void examples(Path readme) throws IOException, ReflectiveOperationException {
        BowSpeeches court = new BowSpeeches();
        int rows = 0;
        for (String line : Files.readAllLines(readme)) {
            Matcher row = ROW.matcher(line);
            if (line.equals("    BowSpeeches court = new BowSpeeches();")) {
                court = new BowSpeeches();
            } else if (row.matches()) {
                rows++;
                Check.due(line.strip(), answer(court, row.group(1), row.group(2)), number(row.group(3)));
            } else {
                Check.due("a row that is none: " + line, line.startsWith("    court.") ? 1 : 0, 0);
            }
        }
        Check.due("enough rows are found", rows >= FEWEST_ROWS ? 1 : 0, 1);
    }

    private static long answer(BowSpeeches court, String name, String list) throws ReflectiveOperationException {
        Method method = methodOf(name);
        String[] told = list.isEmpty() ? new String[0] : list.split(", ");
        Class<?>[] types = method.getParameterTypes();
        Object[] arguments = new Object[told.length];
        for (int i = 0; i < told.length; i++) {
            long number = number(told[i]);
            if (types[i] == long.class) {
                arguments[i] = number;
            } else {
                arguments[i] = (int) number;
            }
        }
        return (Integer) method.invoke(court, arguments);
    }

    private static Method methodOf(String name) throws ReflectiveOperationException {
        for (Method method : BowSpeeches.class.getDeclaredMethods()) {
            if (method.getName().equals(name)) {
                return method;
            }
        }
        throw new NoSuchMethodException(name);
    }

    /** A number, a constant of the class, or packed("..."). */
    private static long number(String told) throws ReflectiveOperationException {
        if (told.startsWith("packed(\"")) {
            return Bows.packed(told.substring("packed(\"".length(), told.length() - 2));
        }
        if (told.matches("-?\\d+")) {
            return Long.parseLong(told);
        }
        return BowSpeeches.class.getField(told.replace("BowSpeeches.", "")).getInt(null);
    }

    private static void names(String text) {
        for (Method method : BowSpeeches.class.getDeclaredMethods()) {
            if (Modifier.isPublic(method.getModifiers())) {
                isNamed(text, "`" + method.getName() + "(");
            }
        }
        String[] tests = new File("src/test/java").list();
        Check.due("the tests are found", tests != null && tests.length > 0 ? 1 : 0, 1);
        if (tests != null) {
            for (String test : tests) {
                isNamed(text, "| " + test.replace(".java", "") + " |");
            }
        }
    }

    private static void isNamed(String text, String name) {
        Check.due("README.md names " + name, text.contains(name) ? 1 : 0, 1);
    }
}
