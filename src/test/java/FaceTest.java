import java.lang.reflect.Constructor;
import java.lang.reflect.Field;
import java.lang.reflect.Method;
import java.lang.reflect.Modifier;
import java.util.Arrays;
import java.util.HashMap;
import java.util.HashSet;
import java.util.Map;
import java.util.NoSuchElementException;
import java.util.Set;

/** The public face, as the document and rule 1 of LANGUAGE.md want it. */
public final class FaceTest {
    private static final String[] FACE = {
        "int feed long long long", "int cave", "int dive", "int place int int", "int way int int",
        "int diver int int", "int cost int int", "int swim int int", "int lay int int", "int stage int int",
        "int take int int", "boolean share int int int", "boolean stone int", "int hour", "boolean undo",
        "int judged int", "int open", "int needs int int", "int out int", "boolean thirds int", "int can",
        "int reaches int", "int deepest int", "int all", "int sure", "int lacks int int", "int clear int",
        "int led", "int lost", "int worst", "int near int int", "int lasts int", "int tie",
        "boolean find int int", "int who", "int ask", "int bell", "int slate", "int together", "int spent",
        "int far int", "int lean int", "int chance int int int", "int rests int int int int",
        "int years int int int", "boolean mark int boolean", "int count int",
    };

    private FaceTest() {
    }

    public static void main(String[] args) throws Exception {
        Class<?> face = DrownedCave.class;
        Probe.due("public and final", face.getModifiers(), Modifier.PUBLIC | Modifier.FINAL);
        methods(face);
        constructors(face);
        fields(face);
        innerClasses(face);
        Probe.close();
    }

    private static void methods(Class<?> face) throws Exception {
        Map<String, String> due = new HashMap<>();
        for (String line : FACE) {
            due.put(line.split(" ")[1], line);
        }
        int found = 0;
        for (Method method : face.getDeclaredMethods()) {
            String line = due.get(method.getName());
            boolean isPublic = Modifier.isPublic(method.getModifiers());
            Probe.due(method + " is public, or private and of another name", isPublic ? line != null
                : line == null && Modifier.isPrivate(method.getModifiers()), true);
            if (isPublic && line != null) {
                found++;
                Probe.due(signature(method) + " is " + line, signature(method).equals(line), true);
            }
        }
        Probe.due("how many methods of the face", found, FACE.length);
        Method rests = face.getMethod("rests", int.class, int.class, int.class, int.class);
        Probe.due("rests throws", Arrays.equals(rests.getExceptionTypes(),
            new Class<?>[] {NoSuchElementException.class}), true);
    }

    private static String signature(Method method) {
        StringBuilder line = new StringBuilder(method.getReturnType() + " " + method.getName());
        for (Class<?> type : method.getParameterTypes()) {
            line.append(' ').append(type);
        }
        return line.toString();
    }

    private static void constructors(Class<?> face) {
        Constructor<?>[] made = face.getDeclaredConstructors();
        Probe.due("constructors", made.length, 1);
        Probe.due("it is public", Modifier.isPublic(made[0].getModifiers()), true);
        Probe.due("its parameters", made[0].getParameterCount(), 0);
    }

    private static void fields(Class<?> face) throws Exception {
        for (Field field : face.getDeclaredFields()) {
            boolean isPrivate = Modifier.isPrivate(field.getModifiers());
            Probe.due(field + " is private, or NONE", isPrivate != field.getName().equals("NONE"), true);
        }
        int none = face.getField("NONE").getModifiers();
        Probe.due("NONE is public static final", none, Modifier.PUBLIC | Modifier.STATIC | Modifier.FINAL);
        Probe.due("NONE", DrownedCave.NONE, -1);
    }

    /** The classes inside hide nothing of the face either: no method of theirs bears one of its names. */
    private static void innerClasses(Class<?> face) {
        Set<String> names = new HashSet<>();
        for (String line : FACE) {
            names.add(line.split(" ")[1]);
        }
        for (Class<?> inner : face.getDeclaredClasses()) {
            Probe.due(inner + " is static", Modifier.isStatic(inner.getModifiers()), true);
            Probe.due(inner + " is not public", Modifier.isPublic(inner.getModifiers()), false);
            for (Method method : inner.getDeclaredMethods()) {
                Probe.due(method + " bears a name of its own", names.contains(method.getName()), false);
            }
        }
    }
}
