import java.lang.reflect.Constructor;
import java.lang.reflect.Field;
import java.lang.reflect.Method;
import java.lang.reflect.Modifier;
import java.util.Set;
import java.util.TreeSet;

/** The public face is that of the document, and nothing else is to be seen. */
public final class FaceTest {
    private static final String[] METHODS = {
        "chair int", "player int int", "tune int int", "train int int int", "start", "beat int",
        "stop", "set int int", "chairOf int int", "playerOf int int", "hears int int",
        "bell int int", "ifStopped int int", "outs", "safeIn int", "mean", "count int", "undo",
        "type int", "clearText", "fault int", "play"
    };

    public static void main(String[] args) {
        Due.due("INVALID_ARGUMENT", BellChairs.INVALID_ARGUMENT, -1000001);
        Due.due("NOT_POSSIBLE", BellChairs.NOT_POSSIBLE, -1000002);
        Due.due("LIMIT_REACHED", BellChairs.LIMIT_REACHED, -1000003);
        Due.due("NOT_FOUND", BellChairs.NOT_FOUND, -1000004);
        Due.due("public final", BellChairs.class.getModifiers(), Modifier.PUBLIC | Modifier.FINAL);
        methods();
        fields();
        constructors();
        innerMethods();
        Due.end();
    }

    private static void methods() {
        Set<String> seen = new TreeSet<>();
        for (Method method : BellChairs.class.getDeclaredMethods()) {
            if (!Modifier.isPrivate(method.getModifiers()) && !method.isSynthetic()) {
                StringBuilder told = new StringBuilder(method.getName());
                for (Class<?> type : method.getParameterTypes()) {
                    told.append(' ').append(type.getName());
                }
                seen.add(told.toString());
                Due.due(told + " is just public", method.getModifiers(), Modifier.PUBLIC);
                Due.due(told + " answers int", method.getReturnType() == int.class ? 1 : 0, 1);
            }
        }
        Due.due("the methods " + seen, seen.equals(Set.of(METHODS)) ? 1 : 0, 1);
    }

    private static void fields() {
        int open = 0;
        for (Field field : BellChairs.class.getDeclaredFields()) {
            if (!Modifier.isPrivate(field.getModifiers())) {
                open++;
            }
            Due.due(field + " is final", Modifier.isFinal(field.getModifiers()) ? 1 : 0, 1);
        }
        Due.due("constants", open, 4);
    }

    private static void constructors() {
        Constructor<?>[] all = BellChairs.class.getDeclaredConstructors();
        Due.due("constructors", all.length, 1);
        Due.due("it is public", all[0].getModifiers(), Modifier.PUBLIC);
        Due.due("it has no parameters", all[0].getParameterCount(), 0);
    }

    /** No private method bears the name of a public one; to be safe none of any inside class does. */
    private static void innerMethods() {
        Set<String> names = new TreeSet<>();
        for (String method : METHODS) {
            names.add(method.split(" ")[0]);
        }
        for (Class<?> inner : BellChairs.class.getDeclaredClasses()) {
            Due.due(inner + " is static", Modifier.isStatic(inner.getModifiers()) ? 1 : 0, 1);
            for (Method method : inner.getDeclaredMethods()) {
                Due.due(method + " has a public name", names.contains(method.getName()) ? 1 : 0, 0);
            }
        }
        for (Method method : BellChairs.class.getDeclaredMethods()) {
            if (Modifier.isPrivate(method.getModifiers())) {
                Due.due(method + " has a public name", names.contains(method.getName()) ? 1 : 0, 0);
            }
        }
    }
}
