import java.lang.reflect.Constructor;
import java.lang.reflect.Field;
import java.lang.reflect.Method;
import java.lang.reflect.Modifier;
import java.util.List;
import java.util.Set;
import java.util.TreeSet;
import java.util.stream.Collectors;
import java.util.stream.Stream;

/** The face of the class is the document's, no more and no less. */
public final class FaceTest {
    private static final String[] METHODS = {"enter 2", "scratch 1", "set 2", "draw 0", "swim 2", "finals 0", "end 0", "next 0",
        "swimmer 2", "at 2", "heat 2", "reserve 1", "points 1", "ifDrawn 2", "lane 2", "why 0", "missing 1", "leader 1", "mean 0",
        "count 1", "undo 0", "type 1", "clearText 0", "fault 1", "play 0"};
    private static final String[] CONSTANTS = {"INVALID_ARGUMENT", "NOT_POSSIBLE", "LIMIT_REACHED", "NOT_FOUND"};

    public static void main(String[] args) {
        constants();
        theClass();
        methods();
        fields();
        classesInside();
        Checks.finish();
    }

    private static void dueTrue(String what, boolean holds) {
        Checks.due(what + " (1: yes)", holds ? 1 : 0, 1);
    }

    private static void constants() {
        Checks.due("INVALID_ARGUMENT", GalaHeats.INVALID_ARGUMENT, Checks.INVALID);
        Checks.due("NOT_POSSIBLE", GalaHeats.NOT_POSSIBLE, Checks.IMPOSSIBLE);
        Checks.due("LIMIT_REACHED", GalaHeats.LIMIT_REACHED, Checks.LIMIT);
        Checks.due("NOT_FOUND", GalaHeats.NOT_FOUND, Checks.NONE);
    }

    private static void theClass() {
        int kind = GalaHeats.class.getModifiers();
        dueTrue("the class is public and final", Modifier.isPublic(kind) && Modifier.isFinal(kind));
        Constructor<?>[] constructors = GalaHeats.class.getDeclaredConstructors();
        Checks.due("constructors", constructors.length, 1);
        dueTrue("it is public and takes nothing",
            Modifier.isPublic(constructors[0].getModifiers()) && constructors[0].getParameterCount() == 0);
    }

    private static void methods() {
        Set<String> found = new TreeSet<>();
        for (Method method : GalaHeats.class.getDeclaredMethods()) {
            if (!Modifier.isPrivate(method.getModifiers()) && !method.isSynthetic()) {
                found.add(method.getName() + " " + method.getParameterCount());
                dueTrue(method.getName() + " is public and no more",
                    Modifier.isPublic(method.getModifiers()) && !Modifier.isStatic(method.getModifiers()));
                dueTrue(method.getName() + " returns int", method.getReturnType() == int.class);
                dueTrue(method.getName() + " takes int", Stream.of(method.getParameterTypes()).allMatch(type -> type == int.class));
            }
        }
        dueTrue("the methods are those of the document", found.equals(new TreeSet<>(List.of(METHODS))));
    }

    private static void fields() {
        Set<String> open = new TreeSet<>();
        for (Field field : GalaHeats.class.getDeclaredFields()) {
            if (!Modifier.isPrivate(field.getModifiers())) {
                open.add(field.getName());
            }
            dueFinalIfStatic(field);
        }
        dueTrue("the fields that are not private are the constants", open.equals(new TreeSet<>(List.of(CONSTANTS))));
    }

    private static void dueFinalIfStatic(Field field) {
        int kind = field.getModifiers();
        dueTrue(field + " is final, if it is static", !Modifier.isStatic(kind) || Modifier.isFinal(kind));
    }

    private static void classesInside() {
        Set<String> names = Stream.of(METHODS).map(method -> method.split(" ")[0]).collect(Collectors.toSet());
        for (Class<?> inside : GalaHeats.class.getDeclaredClasses()) {
            int kind = inside.getModifiers();
            dueTrue(inside + " is static and not public", Modifier.isStatic(kind) && !Modifier.isPublic(kind) && !Modifier.isProtected(kind));
            for (Field field : inside.getDeclaredFields()) {
                dueFinalIfStatic(field);
            }
            for (Method method : inside.getDeclaredMethods()) {
                dueTrue(inside + "." + method.getName() + " takes at most seven", method.getParameterCount() <= 7);
                dueTrue(inside + "." + method.getName() + " has a name of its own", !names.contains(method.getName()));
            }
        }
    }
}
