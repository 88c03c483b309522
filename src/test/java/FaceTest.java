import java.lang.reflect.Constructor;
import java.lang.reflect.Field;
import java.lang.reflect.Method;
import java.lang.reflect.Modifier;
import java.util.Set;
import java.util.TreeSet;

/** The public face: its names, types and constants, and no other member that can be seen from outside. */
public final class FaceTest {
    private static final Set<String> METHODS = Set.of(
            "int part(int,int)", "int state(int)", "int clean(int)", "int cleaning(int)", "int plan(int,int,int)",
            "int plans(boolean)", "int act()", "int line(int,int,int,int)", "int wipe(int)", "int fault(int,int)",
            "int run(int,int)", "int ran(int)", "int failure(int,int)", "int leaks()", "int leak(int,int)",
            "int trace(int,int,int)", "int giveBack(int)", "long cents(int,int)", "int log(int,int)");
    private static final Set<String> CONSTANTS = Set.of("NOTHING", "UNKNOWN", "OUTSIDE", "STATE", "FULL");

    public static void main(String[] args) {
        members();
        constants();
        nothingThrows();
        Due.end();
    }

    private static boolean open(int modifiers) {
        return !Modifier.isPrivate(modifiers);
    }

    private static void members() {
        Class<?> face = HireScopes.class;
        Due.due("public and final", Modifier.PUBLIC | Modifier.FINAL, face.getModifiers());
        Set<String> methods = new TreeSet<>();
        Set<String> names = new TreeSet<>();
        for (Method method : face.getDeclaredMethods()) {
            if (open(method.getModifiers()) && !method.isSynthetic()) {
                methods.add(text(method));
                names.add(method.getName());
                Due.due("public: " + method, Modifier.PUBLIC, method.getModifiers());
            }
        }
        Due.due("methods " + methods, 1, methods.equals(METHODS) ? 1 : 0);
        for (Method method : face.getDeclaredMethods()) {
            if (!open(method.getModifiers())) {
                Due.due("a private method of a public one's name: " + method, 0, names.contains(method.getName()) ? 1 : 0);
            }
        }
        Set<String> fields = new TreeSet<>();
        for (Field field : face.getDeclaredFields()) {
            if (open(field.getModifiers())) {
                fields.add(field.getName());
                Due.due("public static final: " + field, Modifier.PUBLIC | Modifier.STATIC | Modifier.FINAL,
                        field.getModifiers());
                Due.due("int: " + field, 1, field.getType() == int.class ? 1 : 0);
            }
        }
        Due.due("constants " + fields, 1, fields.equals(CONSTANTS) ? 1 : 0);
        Constructor<?>[] constructors = face.getDeclaredConstructors();
        Due.due("constructors", 1, constructors.length);
        Due.due("the constructor", Modifier.PUBLIC, constructors[0].getModifiers());
        Due.due("its parameters", 0, constructors[0].getParameterCount());
        Due.due("classes inside", 1, face.getDeclaredClasses().length <= 12 ? 1 : 0);
        for (Class<?> inside : face.getDeclaredClasses()) {
            Due.due("static and not public: " + inside, Modifier.STATIC,
                    inside.getModifiers() & (Modifier.STATIC | Modifier.PUBLIC | Modifier.PROTECTED));
        }
    }

    private static String text(Method method) {
        StringBuilder text = new StringBuilder(method.getReturnType() + " " + method.getName() + "(");
        for (Class<?> parameter : method.getParameterTypes()) {
            text.append(text.charAt(text.length() - 1) == '(' ? "" : ",").append(parameter);
        }
        return text.append(")").toString();
    }

    private static void constants() {
        Due.due("NOTHING", -1, HireScopes.NOTHING);
        Due.due("UNKNOWN", -101, HireScopes.UNKNOWN);
        Due.due("OUTSIDE", -102, HireScopes.OUTSIDE);
        Due.due("STATE", -103, HireScopes.STATE);
        Due.due("FULL", -104, HireScopes.FULL);
    }

    /** Each call with each number of some odd ones, on an empty object and on a used one; what throws ends the test. */
    private static void nothingThrows() {
        int[] odds = {Integer.MIN_VALUE, -2, -1, 0, 1, 11, 12, 39, 40, 59, 60, 61, Integer.MAX_VALUE};
        HireScopes used = new HireScopes();
        for (int p = 0; p < 61; p++) {
            used.part(p % 40, p);
        }
        int n = Due.script(used, 2, 0, 0, 2, 1, 1, 0, 2, 2, 8, 0, 0);
        used.run(n, 0);
        HireScopes[] objects = {new HireScopes(), used};
        for (HireScopes x : objects) {
            for (int i : odds) {
                x.state(i);
                x.cleaning(i);
                x.clean(i);
                x.wipe(i == n ? -1 : i);
                x.ran(i);
                x.giveBack(i);
                for (int j : odds) {
                    x.fault(i, j);
                    x.run(i, j);
                    x.failure(i, j);
                    x.leak(i, j);
                    x.cents(i, j);
                    x.log(i, j);
                    x.part(i, j);
                    for (int k : odds) {
                        x.trace(i, j, k);
                        x.plan(i, j, k);
                        x.line(0, i, j, k);
                        x.line(i, 0, j, k);
                    }
                }
            }
        }
    }
}
