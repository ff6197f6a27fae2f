import java.lang.reflect.Constructor;
import java.lang.reflect.Field;
import java.lang.reflect.Method;
import java.lang.reflect.Modifier;
import java.nio.file.Files;
import java.nio.file.Path;
import java.util.Arrays;
import java.util.Set;
import java.util.TreeSet;
import java.util.stream.Collectors;

/** The public face is the one that the document writes, and there is nothing else to be seen. */
public final class FaceTests {
    private static final Path DOCUMENT = Path.of("..", "shared", "DOC.md");

    public static void main(String[] args) throws Exception {
        Set<String> due = new TreeSet<>();
        for (String line : Files.readAllLines(DOCUMENT)) {
            if (line.startsWith("    public ") && line.endsWith(";")) {
                due.add(plain(line));
            }
        }
        Check.same("the members in the document", 40, due.size());
        Set<String> got = new TreeSet<>();
        for (Method method : BuskPitches.class.getDeclaredMethods()) {
            if (!Modifier.isPrivate(method.getModifiers())) {
                got.add(write(method));
            }
        }
        for (Constructor<?> constructor : BuskPitches.class.getDeclaredConstructors()) {
            got.add(Modifier.toString(constructor.getModifiers()) + " BuskPitches()");
            Check.same("parameters of a constructor", 0, constructor.getParameterCount());
        }
        Check.sameText("the face", String.join("\n", due), String.join("\n", got));
        checkFields();
        checkNames(due);
        Check.end("FaceTests");
    }

    /** A line of the document with the types of its parameters alone. */
    private static String plain(String line) {
        String parameters = line.substring(line.indexOf('(') + 1, line.indexOf(')'));
        String types = Arrays.stream(parameters.split(", *"))
            .map(parameter -> parameter.trim().split(" ")[0])
            .collect(Collectors.joining(", "));
        String head = line.substring(0, line.indexOf('(')).trim();
        String tail = line.substring(line.indexOf(')') + 1, line.length() - 1);
        return head + "(" + types + ")" + tail;
    }

    private static String write(Method method) {
        String types = Arrays.stream(method.getParameterTypes()).map(Class::getSimpleName)
            .collect(Collectors.joining(", "));
        String thrown = Arrays.stream(method.getExceptionTypes()).map(Class::getSimpleName)
            .collect(Collectors.joining(", "));
        return Modifier.toString(method.getModifiers()) + " " + method.getReturnType().getSimpleName() + " "
            + method.getName() + "(" + types + ")" + (thrown.isEmpty() ? "" : " throws " + thrown);
    }

    private static void checkFields() {
        for (Field field : BuskPitches.class.getDeclaredFields()) {
            Check.isTrue(field + " is private", Modifier.isPrivate(field.getModifiers()));
        }
        Check.isTrue("public and final", Modifier.isPublic(BuskPitches.class.getModifiers())
            && Modifier.isFinal(BuskPitches.class.getModifiers()));
    }

    /** No method inside bears the name of a public one. */
    private static void checkNames(Set<String> face) {
        Set<String> names = face.stream().map(line -> line.replaceAll("\\(.*", "").replaceAll(".* ", ""))
            .collect(Collectors.toSet());
        for (Method method : BuskPitches.class.getDeclaredMethods()) {
            boolean isPublic = Modifier.isPublic(method.getModifiers());
            Check.isTrue("the name of " + method, isPublic || !names.contains(method.getName()));
        }
        for (Class<?> inside : BuskPitches.class.getDeclaredClasses()) {
            Check.isTrue(inside + " is static", Modifier.isStatic(inside.getModifiers()));
            for (Method method : inside.getDeclaredMethods()) {
                Check.isTrue("the name of " + method, !names.contains(method.getName()));
            }
        }
    }
}
