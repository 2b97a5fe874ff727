import java.io.IOException;
import java.lang.reflect.InvocationTargetException;
import java.lang.reflect.Method;
import java.nio.file.Files;
import java.nio.file.Path;
import java.util.Set;
import java.util.TreeSet;
import java.util.regex.Matcher;
import java.util.regex.Pattern;

/** Each call that README.md shows answers what stands behind it, and the whole face is shown. */
public final class ReadmeTest {
    private static final Pattern NEW = Pattern.compile("LogDesk desk = new LogDesk\\((\\d+)\\);.*");
    private static final Pattern CALL = Pattern.compile("desk\\.(\\w+)\\((.*?)\\); *// ([^ :]+).*");

    private final Check check = new Check("ReadmeTest");
    private final Set<String> shown = new TreeSet<>();
    private LogDesk desk;

    public static void main(String[] args) throws IOException, IllegalAccessException {
        ReadmeTest test = new ReadmeTest();
        boolean isCode = false;
        for (String line : Files.readAllLines(Path.of("README.md"))) {
            if (line.startsWith("```")) {
                isCode = line.equals("```java");
            } else if (isCode) {
                test.line(line);
            }
        }
        for (Method method : LogDesk.class.getMethods()) {
            if (method.getDeclaringClass() == LogDesk.class) {
                test.check.due(method.getName() + " is shown", test.shown.contains(method.getName()), true);
            }
        }
        test.check.end();
    }

    private void line(String line) throws IllegalAccessException {
        Matcher made = NEW.matcher(line);
        Matcher called = CALL.matcher(line);
        if (made.matches()) {
            desk = new LogDesk(Integer.parseInt(made.group(1)));
        } else if (called.matches() && desk != null) {
            call(line, called.group(1), called.group(2), called.group(3));
        } else {
            check.fail("no call with its answer: " + line);
        }
    }

    private void call(String line, String name, String arguments, String want) throws IllegalAccessException {
        for (Method method : LogDesk.class.getMethods()) {
            if (method.getDeclaringClass() == LogDesk.class && method.getName().equals(name)) {
                shown.add(name);
                String got = answer(method, arguments);
                check.due(line, got, method.getReturnType() == void.class ? "null" : want);
                return;
            }
        }
        check.fail("no such method: " + line);
    }

    private String answer(Method method, String arguments) throws IllegalAccessException {
        String[] texts = arguments.isEmpty() ? new String[0] : arguments.split(", *");
        Object[] values = new Object[texts.length];
        for (int i = 0; i < texts.length; i++) {
            long value = Long.decode(texts[i]);
            values[i] = method.getParameterTypes()[i] == long.class ? (Object) value : (Object) (int) value;
        }
        try {
            return String.valueOf(method.invoke(desk, values));
        } catch (InvocationTargetException e) {
            return "throws." + e.getCause().getClass().getSimpleName();
        }
    }
}
