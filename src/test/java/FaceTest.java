import java.lang.reflect.Constructor;
import java.lang.reflect.Field;
import java.lang.reflect.Method;
import java.lang.reflect.Modifier;
import java.util.Arrays;
import java.util.Set;
import java.util.TreeSet;
import java.util.stream.Collectors;

/** The public face is the one that stands in the document, and nothing else can be seen. */
final class FaceTest {
    private static final Class<?> FACE = GraveSegments.class;

    public static void main(String[] args) {
        Checks checks = Checks.of("The public face");
        dueSame(checks, facesInTheDocument(), facesOfTheClass());
        checks.due("NONE", GraveSegments.NONE, -1);
        dueNothingElseVisible(checks);
        duePrivateNamesOfTheirOwn(checks);
        checks.end();
    }

    private static void dueSame(Checks checks, Set<String> want, Set<String> got) {
        checks.due("how many faces there are", got.size(), want.size());
        if (!got.equals(want)) {
            checks.tell("the class shows " + got + ", due is " + want);
        }
    }

    /** Each line of the document's face, without the names of parameters and the value of NONE. */
    private static Set<String> facesInTheDocument() {
        Set<String> faces = new TreeSet<>();
        for (String line : Document.face().split("\n")) {
            if (line.strip().startsWith("public ")) {
                faces.add(line.strip().replaceAll("(int) \\w+([,)])", "$1$2").replaceAll(" = -1|;| \\{", ""));
            }
        }
        return faces;
    }

    private static Set<String> facesOfTheClass() {
        Set<String> faces = new TreeSet<>();
        faces.add(Modifier.toString(FACE.getModifiers()) + " class " + FACE.getName());
        for (Field field : FACE.getFields()) {
            faces.add(Modifier.toString(field.getModifiers()) + " " + field.getType() + " " + field.getName());
        }
        for (Constructor<?> made : FACE.getConstructors()) {
            faces.add("public " + made.getName() + "(" + names(made.getParameterTypes()) + ")");
        }
        for (Method method : FACE.getDeclaredMethods()) {
            if (Modifier.isPublic(method.getModifiers())) {
                String thrown = names(method.getExceptionTypes());
                faces.add(Modifier.toString(method.getModifiers()) + " " + method.getReturnType() + " "
                        + method.getName() + "(" + names(method.getParameterTypes()) + ")"
                        + (thrown.isEmpty() ? "" : " throws " + thrown));
            }
        }
        return faces;
    }

    private static String names(Class<?>[] types) {
        return Arrays.stream(types).map(Class::getSimpleName).collect(Collectors.joining(", "));
    }

    private static void dueNothingElseVisible(Checks checks) {
        for (Field field : FACE.getDeclaredFields()) {
            boolean isPrivate = Modifier.isPrivate(field.getModifiers());
            checks.due(field + " is private", isPrivate ? 1 : 0, field.getName().equals("NONE") ? 0 : 1);
        }
        for (Method method : FACE.getDeclaredMethods()) {
            int modifiers = method.getModifiers();
            boolean isSeen = !Modifier.isPrivate(modifiers) && !Modifier.isPublic(modifiers);
            checks.due(method + " is seen", isSeen ? 1 : 0, 0);
        }
        for (Class<?> inside : FACE.getDeclaredClasses()) {
            int modifiers = inside.getModifiers();
            boolean isOpen = Modifier.isPublic(modifiers) || Modifier.isProtected(modifiers);
            checks.due(inside + " is open to others", isOpen ? 1 : 0, 0);
            checks.due(inside + " is static", Modifier.isStatic(modifiers) ? 1 : 0, 1);
        }
        checks.due("constructors", FACE.getDeclaredConstructors().length, 1);
    }

    private static void duePrivateNamesOfTheirOwn(Checks checks) {
        Set<String> names = new TreeSet<>();
        for (Method method : FACE.getMethods()) {
            names.add(method.getName());
        }
        for (Method method : FACE.getDeclaredMethods()) {
            if (Modifier.isPrivate(method.getModifiers())) {
                checks.due(method + " bears a public name", names.contains(method.getName()) ? 1 : 0, 0);
            }
        }
    }
}
