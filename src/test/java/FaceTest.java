import java.lang.reflect.Constructor;
import java.lang.reflect.Field;
import java.lang.reflect.Method;
import java.lang.reflect.Modifier;
import java.util.Arrays;
import java.util.Set;
import java.util.TreeSet;

/** The class shows the document's face and nothing else. */
public final class FaceTest {
    private static final String[] DUE = {
        "int height(int, int) IllegalArgumentException IllegalStateException",
        "int gap(int) IllegalArgumentException IllegalStateException",
        "int car(int) IllegalArgumentException IllegalStateException",
        "void rates(int, int, int, int) IllegalArgumentException IllegalStateException",
        "void slow(int, int, int) IllegalArgumentException",
        "void door(int, int, int) IllegalArgumentException IllegalStateException",
        "int go(int, int) IllegalArgumentException IllegalStateException",
        "boolean open(int) IllegalArgumentException IllegalStateException",
        "boolean close(int) IllegalArgumentException",
        "boolean beam(int, boolean) IllegalArgumentException",
        "boolean contact(int, int, boolean) IllegalArgumentException",
        "int load(int, int) IllegalArgumentException",
        "int most(int, int) IllegalArgumentException",
        "int fire(int, int) IllegalArgumentException",
        "int inspect(int, int) IllegalArgumentException",
        "boolean power(boolean)",
        "int steps(int) IllegalArgumentException",
        "int told(int, int) IllegalArgumentException",
        "int wear(int, int) IllegalArgumentException",
    };

    public static void main(String[] args) {
        Check check = new Check();
        int modifiers = CarSteps.class.getModifiers();
        check.is("public final", Modifier.isPublic(modifiers) && Modifier.isFinal(modifiers), true);
        check.is("NONE", CarSteps.NONE, -1);
        check.is("OFF", CarSteps.OFF, 2);
        check.text("constants", openFields().toString(), "[NONE, OFF]");
        Constructor<?>[] constructors = CarSteps.class.getDeclaredConstructors();
        check.is("constructors", constructors.length, 1);
        check.text("constructor", constructors[0].toString(), "public CarSteps(int)");
        check.text("methods", openMethods().toString(), new TreeSet<>(Arrays.asList(DUE)).toString());
        check.end();
    }

    private static Set<String> openFields() {
        Set<String> names = new TreeSet<>();
        for (Field f : CarSteps.class.getDeclaredFields()) {
            if (!Modifier.isPrivate(f.getModifiers())) {
                names.add(f.getName());
            }
        }
        return names;
    }

    private static Set<String> openMethods() {
        Set<String> signatures = new TreeSet<>();
        for (Method m : CarSteps.class.getDeclaredMethods()) {
            if (!Modifier.isPrivate(m.getModifiers())) {
                signatures.add(signature(m));
            }
        }
        return signatures;
    }

    private static String signature(Method m) {
        StringBuilder text = new StringBuilder();
        text.append(m.getReturnType().getSimpleName()).append(' ').append(m.getName()).append('(');
        String comma = "";
        for (Class<?> p : m.getParameterTypes()) {
            text.append(comma).append(p.getSimpleName());
            comma = ", ";
        }
        text.append(')');
        for (Class<?> e : m.getExceptionTypes()) {
            text.append(' ').append(e.getSimpleName());
        }
        return text.toString();
    }

    private FaceTest() {
    }
}
