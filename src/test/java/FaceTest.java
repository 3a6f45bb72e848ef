import java.io.IOException;
import java.lang.reflect.Field;
import java.lang.reflect.Method;
import java.lang.reflect.Modifier;
import java.nio.file.Files;
import java.nio.file.Path;
import java.util.ArrayList;
import java.util.Arrays;
import java.util.HashSet;
import java.util.List;
import java.util.Set;
import java.util.TreeSet;
import java.util.regex.Matcher;
import java.util.regex.Pattern;

/** The face as the document writes it, and those rules of LANGUAGE.md that the text of the program shows. */
public final class FaceTest {
    private static final String DOCUMENT = "../shared/DOC.md";
    private static final String PROGRAM = "src/main/java/RentDivision.java";

    private static List<String> faceOfDocument() throws IOException {
        List<String> face = new ArrayList<>();
        boolean inside = false;
        for (String line : Files.readAllLines(Path.of(DOCUMENT))) {
            if (line.startsWith("```")) {
                inside = line.equals("```java") && face.isEmpty();
            } else if (inside && line.startsWith("    public ")) {
                face.add(line.trim());
            }
        }
        return face;
    }

    private static void constants(String line, Set<String> due) {
        String[] parts = line.substring("public static final int ".length()).replace(";", "").split(", ");
        for (String part : parts) {
            due.add("int " + part);
        }
    }

    private static void compareFace() throws IOException, IllegalAccessException {
        Set<String> due = new TreeSet<>();
        for (String line : faceOfDocument()) {
            if (line.startsWith("public static final int ")) {
                constants(line, due);
            } else {
                due.add(line.replaceAll("public |;", "").replaceAll("(int|boolean) \\w+([,)])", "$1$2"));
            }
        }
        Set<String> got = new TreeSet<>();
        got.add("RentDivision()");
        Check.due("constructors", RentDivision.class.getDeclaredConstructors().length, 1);
        Check.due("public constructors", RentDivision.class.getConstructors().length, 1);
        for (Field field : RentDivision.class.getDeclaredFields()) {
            if (!Modifier.isPrivate(field.getModifiers())) {
                got.add(field.getType() + " " + field.getName() + " = " + field.get(null));
            }
        }
        Set<String> hidden = new HashSet<>();
        for (Method method : RentDivision.class.getDeclaredMethods()) {
            if (Modifier.isPrivate(method.getModifiers())) {
                hidden.add(method.getName());
                continue;
            }
            String parameters = Arrays.toString(method.getParameterTypes()).replaceAll("[\\[\\]]", "");
            String thrown = method.getExceptionTypes().length > 0 ? " throws " + method.getExceptionTypes()[0].getSimpleName() : "";
            got.add(method.getReturnType() + " " + method.getName() + "(" + parameters + ")" + thrown);
            Check.due(method.getName() + " is public", Modifier.isPublic(method.getModifiers()), true);
        }
        Check.dueText("face", String.join("\n", got), String.join("\n", due));
        Check.due("lines of the face", due.size(), 1 + 20 + 64);
        for (Class<?> inside : RentDivision.class.getDeclaredClasses()) {
            for (Method method : inside.getDeclaredMethods()) {
                hidden.add(method.getName());
            }
        }
        for (Method method : RentDivision.class.getMethods()) {
            Check.due("a hidden method named " + method.getName(), hidden.contains(method.getName()), false);
        }
    }

    private static void compareClasses() {
        Class<?>[] inside = RentDivision.class.getDeclaredClasses();
        Check.due("some twelve classes", inside.length < 13, true);
        Check.due("the class is public and final", RentDivision.class.getModifiers(), Modifier.PUBLIC | Modifier.FINAL);
        for (Class<?> one : inside) {
            Check.due(one + " is static", Modifier.isStatic(one.getModifiers()), true);
            Check.due(one + " is not public", Modifier.isPublic(one.getModifiers()), false);
            fields(one);
        }
        fields(RentDivision.class);
    }

    private static void fields(Class<?> one) {
        int fields = 0;
        for (Field field : one.getDeclaredFields()) {
            if (Modifier.isStatic(field.getModifiers())) {
                Check.due(field + " is final", Modifier.isFinal(field.getModifiers()), true);
                Check.due(field + " is a number", field.getType() == int.class, true);
            } else {
                fields++;
            }
        }
        Check.due(one + " has some twenty fields", fields <= 20, true);
    }

    private static String withoutComments(String program) {
        return program.replaceAll("(?s)/\\*.*?\\*/", "").replaceAll("//[^\n]*", "");
    }

    private static void never(String program, String pattern) {
        Matcher matcher = Pattern.compile(pattern).matcher(program);
        boolean found = matcher.find();
        Check.due("'" + pattern + "' in the program" + (found ? ": " + matcher.group() : ""), found, false);
    }

    private static void compareWords() throws IOException {
        String program = withoutComments(Files.readString(Path.of(PROGRAM)));
        never(program, "->|::|\\b(synchronized|assert|finally|try|catch|instanceof|native|volatile|transient|strictfp)\\b");
        never(program, "\\b(protected|package|System\\.(?!arraycopy)|Thread|Object|Random|Exact)\\b|Exact\\(");
        never(program, "\\b(toString|equals|hashCode)\\b");
        never(program, "import (?!java\\.util\\.Arrays;)");
        never(program, "throw new (?!IndexOutOfBoundsException\\(\"[a-z ]+\"\\);)");
        never(program, "[^\\x00-\\x7f]");
    }

    public static void main(String[] args) throws IOException, IllegalAccessException {
        compareFace();
        compareClasses();
        compareWords();
        Check.end("FaceTest");
    }
}
