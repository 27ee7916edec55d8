import java.io.IOException;
import java.nio.file.Files;
import java.nio.file.Path;
import java.util.Set;
import java.util.regex.Matcher;
import java.util.regex.Pattern;

/**
 * Rules of LANGUAGE.md that can be read off the program's text; FaceTest has those that reflection
 * shows. Runs from the project's directory, as .ci/run does.
 */
public final class LanguageTest {
    private static final Path PROGRAM = Path.of("src/main/java/LinkStateNet.java");

    private static final String[] NOT_IN_THE_LANGUAGE = {
        "package", "import", "throw", "throws", "try", "catch", "finally", "synchronized", "assert",
        "volatile", "native", "transient", "Object", "System", "Thread", "Random",
    };

    private static final Set<String> LIBRARY = Set.of("Math.max");

    /** A method's or constructor's first line inside the outer class or a nested one. */
    private static final Pattern HEAD = Pattern.compile(
        "(?m)^( {4}| {8})(?:(?:public|private|static|final) )*(?:[A-Za-z]+(?:\\[\\])* )?([A-Za-z]+)\\(([^)]*)\\) \\{$");

    public static void main(String[] args) throws IOException {
        String text = Files.readString(PROGRAM);
        String code = text.replaceAll("(?s)/\\*.*?\\*/", "").replaceAll("//[^\n]*", "");
        words(code);
        calls(code);
        methods(text);
        Check.end();
    }

    private static boolean has(String code, String regex) {
        return Pattern.compile(regex).matcher(code).find();
    }

    private static void words(String code) {
        Check.part("rules 2, 4, 5, 6 and 13");
        for (String word : NOT_IN_THE_LANGUAGE) {
            Check.due("the word " + word, has(code, "\\b" + word + "\\b"), false);
        }
        Check.due("a lambda", code.contains("->"), false);
        Check.due("a method reference", code.contains("::"), false);
        Check.due("a static initialiser block", has(code, "static\\s*\\{"), false);
        Check.due("a text", code.contains("\""), false);
        Check.due("a loop without a counter", has(code, "\\b(while|do)\\b|for \\(;"), false);
    }

    private static void calls(String code) {
        Check.part("rule 4, the library");
        Matcher call = Pattern.compile("\\b([A-Z][A-Za-z]*\\.[a-z][A-Za-z]*)\\(").matcher(code);
        while (call.find()) {
            String name = call.group(1);
            boolean own = has(code, "\\bclass " + name.substring(0, name.indexOf('.')) + "\\b");
            Check.due(name, own || LIBRARY.contains(name), true);
        }
    }

    private static void methods(String text) {
        Check.part("rule 11");
        Matcher head = HEAD.matcher(text);
        int found = 0;
        while (head.find()) {
            found++;
            String name = head.group(2);
            int end = text.indexOf("\n" + head.group(1) + "}", head.end());
            long lines = text.substring(head.start(), end).lines().count() + 1;
            Check.due(name + " has at most sixty lines", lines <= 60, true);
            Check.due(name + " has at most seven parameters", head.group(3).split(",").length <= 7, true);
        }
        Check.due("methods and constructors are found", found > 50, true);
    }
}
