import java.io.IOException;
import java.lang.reflect.Constructor;
import java.lang.reflect.Field;
import java.lang.reflect.Method;
import java.lang.reflect.Modifier;
import java.nio.file.Files;
import java.nio.file.Path;
import java.util.ArrayList;
import java.util.Arrays;
import java.util.List;
import java.util.Set;
import java.util.TreeSet;
import java.util.regex.Matcher;
import java.util.regex.Pattern;

/** The public face is that of the document and no more, and what of LANGUAGE.md can be told from the class and its text. */
public final class FaceTest {
    private static final String[] FACE = {
        "int bestBow()", "int bow(int,int,int)", "int count(int)", "int courtier(int,int)", "int darling()",
        "int eyes(int,int)", "int fault()", "int favour(int,int)", "int give()", "int hush()", "int ifGiven(int,int)",
        "int put(long)", "int read()", "int restore(int)", "int save(int)", "int sentence(int,int,int)",
        "int set(int,int)", "int speech(int,int)", "int takeBack()", "int undo()", "int wipe()", "int word(int,int)"};

    private static final String[] RULED_OUT = {"package", "import", "throw", "throws", "try", "catch", "synchronized",
        "assert", "volatile", "native", "protected", "static\\s*\\{", "->", "::", "\"", "[|&^]=", "getClass", "hashCode",
        "toString", "equals"};
    /** Beside the constants, which are written in capitals, the names of classes that the text may hold. */
    private static final Set<String> CLASSES = Set.of("BowSpeeches", "Court", "Seen", "Pad", "History", "Math");

    public static void main(String[] args) throws IOException {
        constants();
        members();
        insideClasses();
        text(Files.readString(Path.of("src/main/java/BowSpeeches.java")));
        Check.end();
    }

    private static void constants() {
        Check.due("NO_SUCH", BowSpeeches.NO_SUCH, -1000001);
        Check.due("BAD_VALUE", BowSpeeches.BAD_VALUE, -1000002);
        Check.due("BAD_TEXT", BowSpeeches.BAD_TEXT, -1000003);
        Check.due("TOO_MANY", BowSpeeches.TOO_MANY, -1000004);
        Check.due("NOT_POSSIBLE", BowSpeeches.NOT_POSSIBLE, -1000005);
        Check.due("NONE", BowSpeeches.NONE, -1000006);
        Check.due("BREAK", BowSpeeches.BREAK, 0);
        Check.due("PLUS", BowSpeeches.PLUS, 1);
        Check.due("MINUS", BowSpeeches.MINUS, 2);
    }

    private static void members() {
        Class<?> face = BowSpeeches.class;
        Check.due("the class", Modifier.toString(face.getModifiers()), "public final");
        List<String> methods = new ArrayList<>();
        for (Method method : face.getDeclaredMethods()) {
            if (!Modifier.isPrivate(method.getModifiers())) {
                methods.add(method.getReturnType() + " " + method.getName() + arguments(method.getParameterTypes()));
            }
        }
        Check.due("the methods", new TreeSet<>(methods).toString(), Arrays.toString(FACE));
        List<String> fields = new ArrayList<>();
        for (Field field : face.getDeclaredFields()) {
            if (!Modifier.isPrivate(field.getModifiers())) {
                fields.add(Modifier.toString(field.getModifiers()) + " " + field.getName());
            }
            Check.due("static and not final: " + field, isLooseStatic(field) ? 1 : 0, 0);
        }
        Check.due("the fields that are not private", fields.size(), 9);
        for (String field : fields) {
            Check.due(field, field.startsWith("public static final ") ? 1 : 0, 1);
        }
        Constructor<?>[] constructors = face.getDeclaredConstructors();
        Check.due("constructors", constructors.length, 1);
        Check.due("the constructor", constructors[0].toString(), "public BowSpeeches()");
    }

    private static boolean isLooseStatic(Field field) {
        return Modifier.isStatic(field.getModifiers()) && !Modifier.isFinal(field.getModifiers());
    }

    private static String arguments(Class<?>[] types) {
        return Arrays.toString(Arrays.stream(types).map(Class::getName).toArray())
                .replace(", ", ",").replace('[', '(').replace(']', ')');
    }

    private static void insideClasses() {
        TreeSet<String> names = new TreeSet<>();
        for (String method : FACE) {
            names.add(method.substring("int ".length(), method.indexOf('(')));
        }
        for (Class<?> inside : BowSpeeches.class.getDeclaredClasses()) {
            Check.due("static: " + inside, Modifier.isStatic(inside.getModifiers()) ? 1 : 0, 1);
            for (Method method : inside.getDeclaredMethods()) {
                Check.due("bears a public name: " + method, names.contains(method.getName()) ? 1 : 0, 0);
            }
            for (Field field : inside.getDeclaredFields()) {
                Check.due("static and not final: " + field, isLooseStatic(field) ? 1 : 0, 0);
            }
        }
        for (Method method : BowSpeeches.class.getDeclaredMethods()) {
            boolean hidden = Modifier.isPrivate(method.getModifiers());
            Check.due("bears a public name: " + method, hidden && names.contains(method.getName()) ? 1 : 0, 0);
        }
    }

    private static void text(String source) {
        String code = source.replaceAll("(?s)/\\*.*?\\*/", "").replaceAll("//[^\n]*", "");
        for (String ruledOut : RULED_OUT) {
            String asWord = Character.isLetter(ruledOut.charAt(0)) ? "\\b" : "";
            boolean found = Pattern.compile(asWord + ruledOut).matcher(code.replaceAll("'.'", "")).find();
            Check.due("the text holds " + ruledOut, found ? 1 : 0, 0);
        }
        Matcher name = Pattern.compile("\\b[A-Z]\\w*[a-z]\\w*").matcher(code);
        while (name.find()) {
            Check.due("a class from outside: " + name.group(), CLASSES.contains(name.group()) ? 1 : 0, 1);
        }
        Matcher function = Pattern.compile("Math\\.(\\w+)").matcher(code);
        while (function.find()) {
            Check.due("a function of Math: " + function.group(1), function.group(1).matches("max|min") ? 1 : 0, 1);
        }
    }
}
