import java.lang.reflect.Constructor;
import java.lang.reflect.Field;
import java.lang.reflect.Method;
import java.lang.reflect.Modifier;
import java.util.Arrays;
import java.util.TreeSet;
import java.util.stream.Collectors;

/** The public face: what the document names, and no member besides that is not private. */
public final class FaceTest {
    private static final String[] METHODS = {
        "int place(int, int, int) IllegalArgumentException IllegalStateException",
        "int lift(int, int, int, int, int, int) IllegalArgumentException IllegalStateException",
        "int part(int, int, int, int, int, int) IllegalArgumentException IllegalStateException",
        "int person(int, int, int) IllegalArgumentException IllegalStateException",
        "int used(int, int, int) IllegalArgumentException",
        "int stock(int, int) IllegalArgumentException",
        "int walk(int, int) IllegalArgumentException",
        "int tour(int, int) IllegalArgumentException",
        "int stop(int) IllegalArgumentException",
        "int told(int) IllegalArgumentException",
        "int put(int) IllegalArgumentException IllegalStateException",
        "int done() IllegalStateException",
        "int due(int) IllegalArgumentException",
        "int late(int) IllegalArgumentException",
        "int fine(int, int) IllegalArgumentException",
        "int wanted(int, int) IllegalArgumentException",
    };

    public static void main(String[] args) {
        Run.report("the class", Modifier.toString(CareTours.class.getModifiers()), "public final");
        methods();
        constructors();
        fields();
        classesInside();
        Run.end();
    }

    private static void methods() {
        TreeSet<String> got = new TreeSet<>();
        for (Method method : CareTours.class.getDeclaredMethods()) {
            if (!Modifier.isPrivate(method.getModifiers())) {
                Run.report(method.getName(), Modifier.toString(method.getModifiers()), "public");
                got.add(method.getReturnType() + " " + method.getName()
                    + names(method.getParameterTypes(), ", ", "(", ")")
                    + names(method.getExceptionTypes(), " ", " ", ""));
            }
        }
        Run.report("the methods", got.toString(), new TreeSet<>(Arrays.asList(METHODS)).toString());
    }

    private static String names(Class<?>[] types, String between, String before, String behind) {
        return Arrays.stream(types).map(Class::getSimpleName)
            .collect(Collectors.joining(between, before, behind));
    }

    private static void constructors() {
        Constructor<?>[] all = CareTours.class.getDeclaredConstructors();
        Run.report("the constructors", Arrays.toString(all), "[public CareTours(int)]");
    }

    private static void fields() {
        TreeSet<String> got = new TreeSet<>();
        for (Field field : CareTours.class.getDeclaredFields()) {
            if (!Modifier.isPrivate(field.getModifiers())) {
                got.add(field.toString());
            }
        }
        Run.report("the fields", got.toString(), "[public static final int CareTours.NONE]");
    }

    private static void classesInside() {
        for (Class<?> inside : CareTours.class.getDeclaredClasses()) {
            int modifiers = inside.getModifiers();
            boolean hidden = !Modifier.isPublic(modifiers) && !Modifier.isProtected(modifiers);
            Run.report(inside + " is hidden and static",
                Boolean.toString(hidden && Modifier.isStatic(modifiers)), "true");
        }
    }
}
