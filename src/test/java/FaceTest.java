import java.lang.reflect.Constructor;
import java.lang.reflect.Field;
import java.lang.reflect.Method;
import java.lang.reflect.Modifier;
import java.util.Arrays;
import java.util.Set;
import java.util.TreeSet;

/** The public face is the document's, and nothing else of the class can be seen (LANGUAGE.md, rule 1). */
public final class FaceTest {
    private static final String[] METHODS = {
        "boolean type(int, int, int, int, int)", "boolean nest(int, int)", "boolean drop(int)",
        "int member(int, boolean, int, int, int)", "boolean remake(int, int, int)", "boolean remove(int)",
        "int branch()", "boolean write(int)", "int refer(int, int, int, int)", "int forget()",
        "int load(int, int)", "int resolve(int, int)", "int select(int, int, int)", "int compare(int)",
        "int receivers(int, int)", "boolean isUnder(int, int, int)", "int count(int, int)",
    };

    public static void main(String[] args) {
        Checks checks = new Checks("FaceTest");
        checks.yes("public final", LinkPredictor.class.getModifiers() == (Modifier.PUBLIC | Modifier.FINAL));
        checks.due("REFUSED", LinkPredictor.REFUSED, -1);
        checks.due("NONE", LinkPredictor.NONE, -2);
        checks.due("FULL", LinkPredictor.FULL, -3);
        checks.yes("methods", seenMethods().equals(new TreeSet<>(Arrays.asList(METHODS))));
        checks.yes("constants", seenFields().equals(new TreeSet<>(Arrays.asList("REFUSED", "NONE", "FULL"))));
        Constructor<?>[] makers = LinkPredictor.class.getDeclaredConstructors();
        checks.yes("constructor", makers.length == 1 && Modifier.isPublic(makers[0].getModifiers())
                && makers[0].getParameterCount() == 0);
        noPrivateMethodBearsAPublicName(checks);
        noStaticFieldChanges(checks, LinkPredictor.class);
        for (Class<?> inner : LinkPredictor.class.getDeclaredClasses()) {
            checks.yes("static " + inner.getName(), Modifier.isStatic(inner.getModifiers()));
            noStaticFieldChanges(checks, inner);
        }
        checks.end();
    }

    private static Set<String> seenMethods() {
        Set<String> seen = new TreeSet<>();
        for (Method method : LinkPredictor.class.getDeclaredMethods()) {
            if (!Modifier.isPrivate(method.getModifiers()) && !method.isSynthetic()) {
                seen.add(method.getReturnType() + " " + method.getName() + parameters(method));
            }
        }
        return seen;
    }

    private static String parameters(Method method) {
        String text = Arrays.toString(method.getParameterTypes());
        return "(" + text.substring(1, text.length() - 1) + ")";
    }

    private static Set<String> seenFields() {
        Set<String> seen = new TreeSet<>();
        for (Field field : LinkPredictor.class.getDeclaredFields()) {
            if (!Modifier.isPrivate(field.getModifiers()) && !field.isSynthetic()) {
                seen.add(field.getName());
            }
        }
        return seen;
    }

    private static void noPrivateMethodBearsAPublicName(Checks checks) {
        Set<String> names = new TreeSet<>();
        for (Method method : LinkPredictor.class.getDeclaredMethods()) {
            if (Modifier.isPublic(method.getModifiers())) {
                names.add(method.getName());
            }
        }
        checks.due("public names", names.size(), METHODS.length);
        for (Method method : LinkPredictor.class.getDeclaredMethods()) {
            checks.yes(method.getName(), Modifier.isPublic(method.getModifiers()) || !names.contains(method.getName()));
        }
        for (Class<?> inner : LinkPredictor.class.getDeclaredClasses()) {
            for (Method method : inner.getDeclaredMethods()) {
                checks.no(inner.getName() + "." + method.getName(), names.contains(method.getName()));
            }
        }
    }

    private static void noStaticFieldChanges(Checks checks, Class<?> owner) {
        for (Field field : owner.getDeclaredFields()) {
            int modifiers = field.getModifiers();
            checks.yes(owner.getName() + "." + field.getName(),
                    !Modifier.isStatic(modifiers) || Modifier.isFinal(modifiers));
        }
    }
}
