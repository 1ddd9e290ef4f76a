import java.io.IOException;
import java.lang.reflect.Method;
import java.lang.reflect.Modifier;
import java.nio.file.Files;
import java.nio.file.Path;
import java.util.Map;
import java.util.TreeMap;
import java.util.regex.Matcher;
import java.util.regex.Pattern;

/** README.md names every method, as it is called, and the calls of its example answer as it says. */
public final class ReadmeTest {
    private static final Pattern CALL = Pattern.compile("^(\\w+)\\(([^)]*)\\) -> (\\S+)");

    public static void main(String[] args) throws IOException, ReflectiveOperationException {
        String page = Files.readString(Path.of("README.md"));
        Map<String, Method> face = face();
        Due.part("README.md, what each method is for");
        for (Method method : face.values()) {
            String called = "`" + method.getName() + "\\(([a-z]+(, )?){" + method.getParameterCount() + "}\\)`";
            Due.due(method.getName() + " is told of", Pattern.compile(called).matcher(page).find(), true);
        }
        Due.part("README.md, an example");
        GreyHair x = Due.told(block(page, "family"));
        int calls = 0;
        for (String line : block(page, "calls").split("\n")) {
            Matcher call = CALL.matcher(line);
            Due.due(line + " is a call", call.find(), true);
            Method method = face.get(call.group(1));
            Object answer = method.invoke(x, numbers(method, call.group(2)));
            Due.same(line, String.valueOf(answer), call.group(3));
            calls++;
        }
        Due.due("the example has calls", calls > 30, true);
        Due.finish();
    }

    private static Map<String, Method> face() {
        Map<String, Method> face = new TreeMap<>();
        for (Method method : GreyHair.class.getDeclaredMethods()) {
            if (Modifier.isPublic(method.getModifiers())) {
                face.put(method.getName(), method);
            }
        }
        return face;
    }

    private static String block(String page, String kind) {
        Matcher found = Pattern.compile("```" + kind + "\n(.*?)```", Pattern.DOTALL).matcher(page);
        return found.find() ? found.group(1) : "";
    }

    private static Object[] numbers(Method method, String told) {
        Class<?>[] types = method.getParameterTypes();
        String[] parts = told.isEmpty() ? new String[0] : told.split(", ");
        Object[] values = new Object[parts.length];
        for (int i = 0; i < parts.length; i++) {
            if (i < types.length && types[i] == boolean.class) {
                values[i] = Boolean.valueOf(parts[i]);
            } else {
                values[i] = Integer.valueOf(parts[i]);
            }
        }
        return values;
    }
}
