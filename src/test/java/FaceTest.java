import java.lang.reflect.Constructor;
import java.lang.reflect.Field;
import java.lang.reflect.Method;
import java.lang.reflect.Modifier;
import java.util.Arrays;
import java.util.Set;
import java.util.TreeSet;

/** The public face is the document's, no more and no less (rules 1 and 5 of LANGUAGE.md). */
public final class FaceTest {
    private static final Set<String> FACE = new TreeSet<>(Arrays.asList(
        "boolean link(int,int,int)",
        "boolean stub(int,int,int,int,int)",
        "boolean power(int,boolean)",
        "boolean lose(int,int,int)",
        "boolean pass(int)",
        "int neighbour(int,int)",
        "int number(int,int)",
        "int age(int,int)",
        "int listed(int,int,int)",
        "int owed(int,int)",
        "int distance(int,int)",
        "int hop(int,int)",
        "int route(int,int)",
        "int send(int,int,int)",
        "int count(int)"));

    public static void main(String[] args) {
        theClass();
        theMethods();
        theFieldsAndConstructors();
        theClassesInside();
        Check.end();
    }

    private static void theClass() {
        Check.part("class");
        int modifiers = LinkStateNet.class.getModifiers();
        Check.due("public", Modifier.isPublic(modifiers), true);
        Check.due("final", Modifier.isFinal(modifiers), true);
    }

    private static void theMethods() {
        Check.part("methods");
        Set<String> found = new TreeSet<>();
        Set<String> publicNames = new TreeSet<>();
        for (String signature : FACE) {
            publicNames.add(signature.substring(signature.indexOf(' ') + 1, signature.indexOf('(')));
        }
        for (Method method : LinkStateNet.class.getDeclaredMethods()) {
            if (Modifier.isPublic(method.getModifiers())) {
                found.add(signature(method));
            } else if (!method.isSynthetic()) {
                Check.due(method + " is private", Modifier.isPrivate(method.getModifiers()), true);
                Check.due(method + " has a public one's name", publicNames.contains(method.getName()), false);
            }
        }
        Check.due("public methods " + found + " are " + FACE, found.equals(FACE), true);
    }

    private static String signature(Method method) {
        StringBuilder text = new StringBuilder(method.getReturnType() + " " + method.getName() + "(");
        String comma = "";
        for (Class<?> type : method.getParameterTypes()) {
            text.append(comma).append(type);
            comma = ",";
        }
        return text.append(")").toString();
    }

    private static void theFieldsAndConstructors() {
        Check.part("fields and constructors");
        for (Field field : LinkStateNet.class.getDeclaredFields()) {
            Check.due(field + " is private", Modifier.isPrivate(field.getModifiers()), true);
            if (Modifier.isStatic(field.getModifiers())) {
                Check.due(field + " is final", Modifier.isFinal(field.getModifiers()), true);
            }
        }
        Constructor<?>[] constructors = LinkStateNet.class.getDeclaredConstructors();
        Check.due("constructors", constructors.length, 1);
        Check.due("public", Modifier.isPublic(constructors[0].getModifiers()), true);
        Check.due("parameters", constructors[0].getParameterCount(), 0);
    }

    private static void theClassesInside() {
        Check.part("classes inside");
        Class<?>[] inside = LinkStateNet.class.getDeclaredClasses();
        Check.due("at most twelve", inside.length <= 12, true);
        for (Class<?> one : inside) {
            Check.due(one + " is static", Modifier.isStatic(one.getModifiers()), true);
            Check.due(one + " is public", Modifier.isPublic(one.getModifiers()), false);
            Check.due(one + " has at most twenty fields", one.getDeclaredFields().length <= 20, true);
        }
    }
}
