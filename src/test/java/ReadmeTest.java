import java.io.IOException;
import java.lang.reflect.InvocationTargetException;
import java.lang.reflect.Method;
import java.lang.reflect.Modifier;
import java.nio.file.Files;
import java.nio.file.Path;
import java.util.regex.Matcher;
import java.util.regex.Pattern;

/** The example in README.md answers what its remarks say, and its table names every method. */
public final class ReadmeTest {
    /** A call, and behind the strokes the answer, if the remark begins with one. */
    private static final Pattern CALL = Pattern.compile(
        "(?m)^net\\.([a-z]+)\\(([^)]*)\\);(?: *// (-?\\d+|true|false)\\b)?.*$");

    public static void main(String[] args) throws IOException, ReflectiveOperationException {
        String text = Files.readString(Path.of("README.md"));
        example(text);
        table(text);
        Check.end();
    }

    private static void example(String text) throws ReflectiveOperationException {
        Check.part("README's example");
        LinkStateNet net = new LinkStateNet();
        Matcher call = CALL.matcher(text);
        int compared = 0;
        while (call.find()) {
            String answer = answer(net, call.group(1), call.group(2).split(", "));
            if (call.group(3) != null) {
                compared++;
                Check.due(call.group() + " answers " + answer, answer.equals(call.group(3)), true);
            }
        }
        Check.due("there are answers in it", compared >= 4, true);
    }

    private static String answer(LinkStateNet net, String name, String[] arguments)
            throws IllegalAccessException, InvocationTargetException {
        Method method = method(name);
        Object[] values = new Object[arguments.length];
        for (int i = 0; i < arguments.length; i++) {
            boolean asInt = method.getParameterTypes()[i] == int.class;
            values[i] = asInt ? (Object) Integer.valueOf(arguments[i]) : Boolean.valueOf(arguments[i]);
        }
        return String.valueOf(method.invoke(net, values));
    }

    private static Method method(String name) {
        for (Method method : LinkStateNet.class.getMethods()) {
            if (method.getName().equals(name)) {
                return method;
            }
        }
        throw new IllegalArgumentException("README.md calls " + name + ", which there is not");
    }

    private static void table(String text) {
        Check.part("README's table");
        for (Method method : LinkStateNet.class.getDeclaredMethods()) {
            if (Modifier.isPublic(method.getModifiers())) {
                Check.due(method.getName(), text.contains("| `" + method.getName() + "("), true);
            }
        }
    }
}
