import java.lang.reflect.Constructor;
import java.lang.reflect.Field;
import java.lang.reflect.Method;
import java.lang.reflect.Modifier;
import java.util.Set;
import java.util.TreeSet;

/** The public face: the members of the document, with their types, and no others. */
public final class FaceTest {
    private static final Set<String> METHODS = Set.of(
            "int shape(int, int, int, int)", "int code(int, long, int)", "int table(int, int)",
            "int check()", "int fault(int)", "int argue(int)", "int start(int)", "int run(int)",
            "int stop()", "long result()", "double real()", "long global(int)",
            "double realGlobal()", "int memory(int)", "int wipe()", "int count(int)");
    private static final Set<String> CONSTANTS = Set.of("int IDLE", "int RUNNING", "int DONE",
            "int TRAPPED");

    public static void main(String[] args) {
        Trial.same("final", Modifier.isFinal(StackForge.class.getModifiers()) ? 1 : 0, 1);
        Trial.same("public", Modifier.isPublic(StackForge.class.getModifiers()) ? 1 : 0, 1);
        methods();
        constants();
        Constructor<?>[] constructors = StackForge.class.getDeclaredConstructors();
        Trial.same("constructors", constructors.length, 1);
        Trial.same("without parameters", constructors[0].getParameterCount(), 0);
        Trial.same("and public", Modifier.isPublic(constructors[0].getModifiers()) ? 1 : 0, 1);
        Trial.finish();
    }

    private static void methods() {
        Set<String> found = new TreeSet<>();
        for (Method method : StackForge.class.getDeclaredMethods()) {
            if (!Modifier.isPrivate(method.getModifiers())) {
                StringBuilder all = new StringBuilder();
                for (Class<?> parameter : method.getParameterTypes()) {
                    all.append(all.length() == 0 ? "" : ", ").append(parameter.getName());
                }
                found.add(method.getReturnType().getName() + " " + method.getName() + "(" + all + ")");
            }
        }
        Trial.same("methods " + found, found.equals(METHODS) ? 1 : 0, 1);
    }

    private static void constants() {
        Set<String> found = new TreeSet<>();
        for (Field field : StackForge.class.getDeclaredFields()) {
            int modifiers = field.getModifiers();
            if (!Modifier.isPrivate(modifiers)) {
                found.add(field.getType().getName() + " " + field.getName());
                Trial.same("constant " + field.getName(),
                        Modifier.isStatic(modifiers) && Modifier.isFinal(modifiers) ? 1 : 0, 1);
            }
        }
        Trial.same("constants " + found, found.equals(CONSTANTS) ? 1 : 0, 1);
    }
}
