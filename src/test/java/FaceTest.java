import java.lang.reflect.Constructor;
import java.lang.reflect.Field;
import java.lang.reflect.Method;
import java.lang.reflect.Modifier;
import java.util.Set;
import java.util.TreeSet;

/** The public face is the document's and nothing else. */
final class FaceTest {
    private static final Set<String> METHODS = Set.of(
            "feed/2", "put/1", "drop/1", "length/2", "find/3", "snapshot/0", "release/1", "sync/0",
            "crash/1", "clean/3", "reopen/0", "badAt/0", "poke/3", "byteAt/2", "living/1",
            "used/1", "count/1");
    private static final Set<String> THROWING = Set.of("poke", "byteAt", "count");

    public static void main(String[] args) {
        Checks checks = new Checks("FaceTest");
        Class<?> face = GraveSegments.class;
        checks.due("NONE", GraveSegments.NONE, -1);
        int modifiers = face.getModifiers();
        checks.due("public", Modifier.isPublic(modifiers) ? 1 : 0, 1);
        checks.due("final", Modifier.isFinal(modifiers) ? 1 : 0, 1);
        checkMethods(checks, face);
        for (Constructor<?> made : face.getDeclaredConstructors()) {
            checks.due("constructor's parameters", made.getParameterCount(), 1);
            checks.due("public constructor", Modifier.isPublic(made.getModifiers()) ? 1 : 0, 1);
        }
        for (Field field : face.getDeclaredFields()) {
            boolean isPrivate = Modifier.isPrivate(field.getModifiers());
            checks.due(field + " is private", isPrivate ? 1 : 0, field.getName().equals("NONE") ? 0 : 1);
        }
        checks.end();
    }

    private static void checkMethods(Checks checks, Class<?> face) {
        Set<String> seen = new TreeSet<>();
        Set<String> names = new TreeSet<>();
        for (Method method : face.getDeclaredMethods()) {
            if (Modifier.isPublic(method.getModifiers())) {
                seen.add(method.getName() + "/" + method.getParameterCount());
                checks.due(method + " is new", names.add(method.getName()) ? 1 : 0, 1);
                checks.due(method + " tells what it throws", method.getExceptionTypes().length,
                        THROWING.contains(method.getName()) ? 1 : 0);
            }
        }
        if (!seen.equals(new TreeSet<>(METHODS))) {
            checks.tell("the public methods are " + seen);
        }
        for (Method method : face.getDeclaredMethods()) {
            if (!Modifier.isPublic(method.getModifiers())) {
                checks.due(method + " is private", Modifier.isPrivate(method.getModifiers()) ? 1 : 0, 1);
                checks.due(method + " has a name of its own", names.contains(method.getName()) ? 1 : 0, 0);
            }
        }
    }
}
