import java.lang.reflect.Constructor;
import java.lang.reflect.Field;
import java.lang.reflect.Method;
import java.lang.reflect.Modifier;
import java.util.Arrays;
import java.util.TreeSet;

/** The public face: what the document names, and no other member that is not private (rule 1 of LANGUAGE.md). */
public final class FaceTests {
    private static final String WHERE = "the public face";
    private static final String[] METHODS = {"write 1", "wipe 0", "fault 0", "lay 0", "word 2", "forbidden 1", "actor 2", "shown 2", "show 2", "guess 1",
        "change 2", "undo 0", "weight 2", "likely 3", "next 1", "fewest 3", "tells 1", "send 1", "queue 1", "parted 2", "most 0", "see 2", "forget 0",
        "habits 1", "wants 1", "missed 3", "season 3", "keep 0", "back 0", "count 1"};
    private static final String[] CONSTANTS = {"BAD -1", "NO -2", "FULL -3", "NONE -4"};

    private static void alike(String what, TreeSet<String> found, String... told) {
        TreeSet<String> due = new TreeSet<>(Arrays.asList(told));
        Checks.due(WHERE, what + " " + found + ", told are " + due, found.equals(due) ? 1 : 0, 1);
    }

    private static void methods() {
        TreeSet<String> open = new TreeSet<>();
        TreeSet<String> hidden = new TreeSet<>();
        for (Method method : CharadePost.class.getDeclaredMethods()) {
            if (Modifier.isPrivate(method.getModifiers())) {
                hidden.add(method.getName());
                continue;
            }
            open.add(method.getName() + " " + method.getParameterCount());
            Checks.due(WHERE, method.getName() + " is public, no more", method.getModifiers(), Modifier.PUBLIC);
            Checks.due(WHERE, method.getName() + " answers an int", method.getReturnType() == int.class ? 1 : 0, 1);
            for (Class<?> parameter : method.getParameterTypes()) {
                Checks.due(WHERE, method.getName() + " takes an int", parameter == int.class ? 1 : 0, 1);
            }
        }
        alike("methods", open, METHODS);
        for (String method : METHODS) {
            Checks.due(WHERE, "a private " + method, hidden.contains(method.split(" ")[0]) ? 1 : 0, 0);
        }
    }

    private static void constants() throws IllegalAccessException {
        TreeSet<String> open = new TreeSet<>();
        for (Field field : CharadePost.class.getDeclaredFields()) {
            if (!Modifier.isPrivate(field.getModifiers())) {
                Checks.due(WHERE, field.getName(), field.getModifiers(), Modifier.PUBLIC | Modifier.STATIC | Modifier.FINAL);
                open.add(field.getName() + " " + field.getInt(null));
            }
            if (Modifier.isStatic(field.getModifiers())) {
                Checks.due(WHERE, field.getName() + " is final", Modifier.isFinal(field.getModifiers()) ? 1 : 0, 1);
            }
        }
        alike("constants", open, CONSTANTS);
    }

    private static void classes() {
        Checks.due(WHERE, "the class", CharadePost.class.getModifiers(), Modifier.PUBLIC | Modifier.FINAL);
        Constructor<?>[] constructors = CharadePost.class.getDeclaredConstructors();
        Checks.due(WHERE, "constructors", constructors.length, 1);
        Checks.due(WHERE, "its parameters", constructors[0].getParameterCount(), 0);
        Checks.due(WHERE, "it is public", constructors[0].getModifiers(), Modifier.PUBLIC);
        for (Class<?> inside : CharadePost.class.getDeclaredClasses()) {
            int modifiers = inside.getModifiers();
            Checks.due(WHERE, inside.getName() + " is static", Modifier.isStatic(modifiers) ? 1 : 0, 1);
            Checks.due(WHERE, inside.getName() + " is seen", Modifier.isPublic(modifiers) || Modifier.isProtected(modifiers) ? 1 : 0, 0);
        }
    }

    public static void main(String[] args) throws IllegalAccessException {
        methods();
        constants();
        classes();
        Checks.finish("FaceTests");
    }
}
