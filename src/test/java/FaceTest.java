import java.lang.reflect.Constructor;
import java.lang.reflect.Field;
import java.lang.reflect.Method;
import java.lang.reflect.Modifier;
import java.util.Arrays;
import java.util.TreeSet;

/**
 * The class has the document's face and shows nothing else; what can be seen of LANGUAGE.md's rules 1,
 * 5 and 11 in the compiled classes holds.
 */
public final class FaceTest {
    private static final String[] FACE = {
        "boolean extend(int, int)", "int define(int, int, int, int)", "boolean need(int, int, int, int)",
        "int configure(int, int, int, int)", "int key(int)", "int request(int)", "int dirty(int)",
        "int shutdown()", "int get(int, int, int, int)", "long call(int, int)", "boolean stub(int, int)",
        "long recorded(int, int)", "int reset(int)", "int wired(int, int)", "int definition(int)",
        "int cached(int)", "int failures(int)", "int events()", "int event(int)",
    };

    public static void main(String[] args) {
        Checks checks = new Checks("FaceTest");
        int modifiers = BeanContexts.class.getModifiers();
        checks.due("the class is public", Modifier.isPublic(modifiers), true);
        checks.due("the class is final", Modifier.isFinal(modifiers), true);

        TreeSet<String> shown = new TreeSet<>();
        TreeSet<String> hidden = new TreeSet<>();
        for (Method method : BeanContexts.class.getDeclaredMethods()) {
            if (Modifier.isPrivate(method.getModifiers())) {
                hidden.add(method.getName());
            } else {
                checks.due(method + " is public", Modifier.isPublic(method.getModifiers()), true);
                shown.add(signature(method));
            }
        }
        checks.due("the public methods are those of the document " + shown,
                shown.equals(new TreeSet<>(Arrays.asList(FACE))), true);
        for (String line : FACE) {
            String name = line.substring(line.indexOf(' ') + 1, line.indexOf('('));
            checks.due("a private method bears the name " + name, hidden.contains(name), false);
        }
        Constructor<?>[] constructors = BeanContexts.class.getDeclaredConstructors();
        checks.due("constructors", constructors.length, 1);
        checks.due("the constructor takes an int",
                Arrays.equals(constructors[0].getParameterTypes(), new Class<?>[] {int.class}), true);
        checks.due("the constructor is public", Modifier.isPublic(constructors[0].getModifiers()), true);
        for (Field field : BeanContexts.class.getDeclaredFields()) {
            checks.due(field + " is private", Modifier.isPrivate(field.getModifiers()), true);
        }
        checks.due("at most twelve classes", BeanContexts.class.getDeclaredClasses().length < 12, true);
        keepsToTheRules(checks, BeanContexts.class);
        for (Class<?> inside : BeanContexts.class.getDeclaredClasses()) {
            int seen = inside.getModifiers();
            checks.due(inside + " is static", Modifier.isStatic(seen), true);
            checks.due(inside + " is hidden", Modifier.isPublic(seen) || Modifier.isProtected(seen), false);
            keepsToTheRules(checks, inside);
        }
        checks.end();
    }

    private static void keepsToTheRules(Checks checks, Class<?> type) {
        int fields = 0;
        for (Field field : type.getDeclaredFields()) {
            boolean isStatic = Modifier.isStatic(field.getModifiers());
            fields += isStatic ? 0 : 1;
            checks.due(field + " is final if static", isStatic && !Modifier.isFinal(field.getModifiers()), false);
        }
        checks.due(type + " has at most twenty fields", fields <= 20, true);
        for (Method method : type.getDeclaredMethods()) {
            checks.due(method + " takes at most seven", method.getParameterCount() <= 7, true);
        }
        for (Constructor<?> constructor : type.getDeclaredConstructors()) {
            checks.due(constructor + " takes at most seven", constructor.getParameterCount() <= 7, true);
        }
    }

    private static String signature(Method method) {
        String parameters = Arrays.toString(method.getParameterTypes()).replace("[", "(").replace("]", ")");
        return method.getReturnType() + " " + method.getName() + parameters;
    }
}
