import java.lang.reflect.Constructor;
import java.lang.reflect.Field;
import java.lang.reflect.Method;
import java.lang.reflect.Modifier;
import java.util.Arrays;
import java.util.Set;
import java.util.TreeSet;

/** The public face: every constant, the constructor and every method of it, and no other. */
final class FaceTest {
    private static final String[] METHODS = {
        "int make(int, int, int)", "int drop(int)", "int probe(int, int, int, int, int)",
        "int value()", "boolean is(int, int)", "boolean same(int, int)",
        "int store(int, int, int)", "int load(int, int, int)",
        "int copy(int, int, int, int, int)", "int compare(int, int)", "int flow(int, int, int)",
        "int number(int, int, int)", "int events()", "int event(int)"
    };
    private static final String[] CONSTANTS = {
        "REFUSED = -1", "VALUE = 0", "CAST = 1", "NULL = 2", "STORE = 3", "INDEX = 4", "ZERO = 5",
        "SIZE = 6"
    };

    public static void main(String[] args) throws IllegalAccessException {
        Due due = new Due();
        due.test("public final class FamilyProbes");
        int modifiers = FamilyProbes.class.getModifiers();
        due.is("public final", modifiers, Modifier.PUBLIC | Modifier.FINAL);
        due.test("The constants: How it went.");
        sameNames(due, CONSTANTS, constants(due));
        due.test("The public face: the methods");
        sameNames(due, METHODS, methods(due));
        due.test("public FamilyProbes();");
        Constructor<?>[] constructors = FamilyProbes.class.getDeclaredConstructors();
        due.is("constructors", constructors.length, 1);
        due.is("constructor's parameters", constructors[0].getParameterCount(), 0);
        due.is("constructor public", constructors[0].getModifiers(), Modifier.PUBLIC);
        due.test("LANGUAGE.md, rule 1: the classes inside it");
        for (Class<?> inside : FamilyProbes.class.getDeclaredClasses()) {
            int of = inside.getModifiers();
            due.is(inside + " static", Modifier.isStatic(of), true);
            due.is(inside + " hidden", Modifier.isPublic(of) || Modifier.isProtected(of), false);
        }
        due.end();
    }

    private static Set<String> constants(Due due) throws IllegalAccessException {
        Set<String> found = new TreeSet<>();
        for (Field field : FamilyProbes.class.getDeclaredFields()) {
            int modifiers = field.getModifiers();
            if (!Modifier.isPrivate(modifiers)) {
                due.is(field + " public static final", modifiers,
                        Modifier.PUBLIC | Modifier.STATIC | Modifier.FINAL);
                found.add(field.getName() + " = " + field.getInt(null));
            }
            if (Modifier.isStatic(modifiers)) {
                due.is(field + " final", Modifier.isFinal(modifiers), true);
            }
        }
        return found;
    }

    private static Set<String> methods(Due due) {
        Set<String> found = new TreeSet<>();
        Set<String> facing = new TreeSet<>();
        for (Method method : FamilyProbes.class.getDeclaredMethods()) {
            if (!Modifier.isPrivate(method.getModifiers())) {
                due.is(method + " public", method.getModifiers(), Modifier.PUBLIC);
                facing.add(method.getName());
                found.add(text(method));
            }
        }
        for (Method method : FamilyProbes.class.getDeclaredMethods()) {
            if (Modifier.isPrivate(method.getModifiers())) {
                due.is(method + " of a public name", facing.contains(method.getName()), false);
            }
        }
        return found;
    }

    private static String text(Method method) {
        String parameters = Arrays.toString(method.getParameterTypes());
        return method.getReturnType() + " " + method.getName()
                + "(" + parameters.substring(1, parameters.length() - 1) + ")";
    }

    private static void sameNames(Due due, String[] want, Set<String> found) {
        for (String name : want) {
            due.is(name, found.contains(name), true);
        }
        due.is("how many of " + found, found.size(), want.length);
    }
}
