import java.io.File;
import java.io.IOException;
import java.lang.reflect.Field;
import java.lang.reflect.Method;
import java.lang.reflect.Modifier;
import java.nio.file.Files;
import java.nio.file.Path;
import java.util.HashMap;
import java.util.Map;
import java.util.regex.Matcher;
import java.util.regex.Pattern;

/** README.md names all that there is, and its example answers what it says. */
public final class ReadmeTests extends DeskTest {
    private static final String MAKING = "CircuitDesk desk = new CircuitDesk();";
    /** The name of the answer, if it gets one; the method; its arguments; the answer that is told. */
    private static final Pattern CALL = Pattern.compile(
            "(?:(?:int|boolean) (\\w+) = )?desk\\.(\\w+)\\((.*)\\); *// (-?\\w+)(?:: .*)?");

    public static void main(String[] args) throws IOException, ReflectiveOperationException {
        String text = Files.readString(Path.of("README.md"));
        allMembersAreNamed(text);
        allTestsAreNamed(text);
        exampleAnswersAsTold(exampleOf(text));
        finish();
    }

    private static void allMembersAreNamed(String text) throws IllegalAccessException {
        for (Method method : CircuitDesk.class.getDeclaredMethods()) {
            if (Modifier.isPublic(method.getModifiers())) {
                String row = "\n| `" + method.getName() + "(";
                due("a row for " + method.getName(), text.contains(row), true);
            }
        }
        for (Field constant : CircuitDesk.class.getFields()) {
            String row = "\n| `" + constant.getName() + "` | " + constant.get(null) + " | ";
            due("a row for " + constant.getName(), text.contains(row), true);
        }
    }

    /** Not those of ../shared/tests: more of them may come at any time. */
    private static void allTestsAreNamed(String text) {
        String[] files = new File("src/test/java").list();
        due("tests are found", files != null, true);
        for (String file : files == null ? new String[0] : files) {
            String name = file.replace(".java", "");
            due(name + " is named", text.contains("`" + name + "`"), true);
        }
    }

    private static String exampleOf(String text) {
        int start = text.indexOf("```java\n");
        int end = text.indexOf("\n```\n", start);
        due("an example is there", start >= 0 && end > start, true);
        return start >= 0 && end > start ? text.substring(start + "```java\n".length(), end) : "";
    }

    private static void exampleAnswersAsTold(String example) throws ReflectiveOperationException {
        CircuitDesk desk = new CircuitDesk();
        Map<String, Object> names = new HashMap<>();
        due("the first line", example.lines().findFirst().orElse(""), MAKING);
        for (String line : example.lines().skip(1).filter(each -> !each.isBlank()).toList()) {
            Matcher call = CALL.matcher(line);
            boolean isCall = call.matches();
            due(line + " is a call", isCall, true);
            if (isCall) {
                Object answer = answerOf(desk, call.group(2), call.group(3), names);
                due(line, answer.toString(), call.group(4));
                names.put(call.group(1), answer);
            }
        }
    }

    private static Object answerOf(CircuitDesk desk, String name, String list,
            Map<String, Object> names) throws ReflectiveOperationException {
        String[] words = list.isEmpty() ? new String[0] : list.split(", ");
        Object[] arguments = new Object[words.length];
        for (int i = 0; i < words.length; i++) {
            arguments[i] = valueOf(words[i], names);
        }
        for (Method method : CircuitDesk.class.getDeclaredMethods()) {
            if (method.getName().equals(name) && method.getParameterCount() == words.length) {
                return method.invoke(desk, arguments);
            }
        }
        return "no such method";
    }

    private static Object valueOf(String word, Map<String, Object> names) {
        if (word.equals("true") || word.equals("false")) {
            return Boolean.valueOf(word);
        }
        return names.containsKey(word) ? names.get(word) : Integer.valueOf(word);
    }
}
