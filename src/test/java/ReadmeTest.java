import java.io.IOException;
import java.lang.reflect.InvocationTargetException;
import java.lang.reflect.Method;
import java.lang.reflect.Modifier;
import java.nio.file.Files;
import java.nio.file.Path;
import java.util.List;
import java.util.regex.Matcher;
import java.util.regex.Pattern;

/** README.md says how to use the class: its examples answer as they say, and its table has every public method. */
public final class ReadmeTest {
    private static final String NEW_OBJECT = "UnitDesk desk = new UnitDesk();";
    private static final Pattern CALL = Pattern.compile("desk\\.(\\w+)\\(([^)]*)\\); *(?:// (.*))?");
    // What stands behind a call is its answer only if it is a number, alone or before a colon.
    private static final Pattern ANSWER = Pattern.compile("(-?\\d+)(?::.*)?");

    private UnitDesk desk = new UnitDesk();
    private int answers = 0;

    public static void main(String[] args) throws IOException, ReflectiveOperationException {
        List<String> lines = Files.readAllLines(Path.of("README.md"));
        new ReadmeTest().examples(lines);
        methods(lines);
        Check.end();
    }

    private void examples(List<String> lines) throws ReflectiveOperationException {
        boolean inside = false;
        for (String line : lines) {
            if (line.startsWith("```")) {
                inside = line.equals("```java");
            } else if (inside && line.equals(NEW_OBJECT)) {
                desk = new UnitDesk();
            } else if (inside) {
                call(line);
            }
        }
        Check.due("the examples tell answers", answers > 0, true);
    }

    private void call(String line) throws ReflectiveOperationException {
        Matcher call = CALL.matcher(line);
        Check.due("this line of an example is a call: " + line, call.matches(), true);
        if (!call.matches()) {
            return;
        }
        Object got = invoke(call.group(1), call.group(2).isEmpty() ? new String[0] : call.group(2).split(", "));
        Matcher answer = ANSWER.matcher(call.group(3) == null ? "" : call.group(3));
        if (got instanceof Integer) {
            Check.due("this line tells the answer: " + line, answer.matches(), true);
        }
        if (got instanceof Integer number && answer.matches()) {
            Check.due(line, number, Integer.parseInt(answer.group(1)));
            answers++;
        }
    }

    private Object invoke(String name, String[] words) throws ReflectiveOperationException {
        for (Method method : UnitDesk.class.getMethods()) {
            if (method.getName().equals(name) && method.getParameterCount() == words.length) {
                return invoke(method, words);
            }
        }
        Check.due("there is a method " + name + " of " + words.length, false, true);
        return null;
    }

    private Object invoke(Method method, String[] words) throws ReflectiveOperationException {
        Object[] arguments = new Object[words.length];
        for (int i = 0; i < words.length; i++) {
            boolean bool = method.getParameterTypes()[i] == boolean.class;
            arguments[i] = bool ? (Object) Boolean.valueOf(words[i]) : (Object) Integer.valueOf(words[i]);
        }
        try {
            return method.invoke(desk, arguments);
        } catch (InvocationTargetException e) {
            Check.due(method.getName() + "(" + String.join(", ", words) + ") threw " + e.getCause(), false, true);
            return null;
        }
    }

    private static void methods(List<String> lines) {
        for (Method method : UnitDesk.class.getDeclaredMethods()) {
            if (Modifier.isPublic(method.getModifiers())) {
                String row = "| `" + method.getReturnType().getSimpleName() + " " + method.getName() + "(";
                Check.due("rows of " + method, lines.stream().filter(line -> line.startsWith(row)).count(), 1);
            }
        }
    }
}
