import java.lang.reflect.Method;
import java.lang.reflect.Modifier;
import java.nio.file.Files;
import java.nio.file.Path;
import java.util.HashMap;
import java.util.Map;
import java.util.TreeSet;
import java.util.regex.Matcher;
import java.util.regex.Pattern;

/** Makes the calls that README.md shows, in their order, and compares their answers with those there. */
public final class ReadmeTest {
    private static final Pattern TYPING =
            Pattern.compile("for \\(char c : \"([^\"]*)\"\\.toCharArray\\(\\)\\) x\\.type\\(c\\);");
    private static final Pattern CALL = Pattern.compile("x\\.(\\w+)\\(([^)]*)\\); *// (-?\\d+).*");
    private static final Checks c = new Checks("ReadmeTest");

    private static final Map<String, Method> methods = new HashMap<>();
    private static final TreeSet<String> shown = new TreeSet<>();
    private static TwigMatches x = new TwigMatches();

    public static void main(String[] args) throws Exception {
        for (Method m : TwigMatches.class.getDeclaredMethods()) {
            if (Modifier.isPublic(m.getModifiers())) {
                methods.put(m.getName(), m);
            }
        }
        boolean inCode = false;
        for (String line : Files.readAllLines(Path.of("README.md"))) {
            if (line.startsWith("```")) {
                inCode = line.equals("```java");
            } else if (inCode) {
                follow(line);
            }
        }
        c.due("the methods in README.md", shown.toString(), new TreeSet<>(methods.keySet()).toString());
        c.finish();
    }

    private static void follow(String line) throws Exception {
        Matcher typing = TYPING.matcher(line);
        Matcher call = CALL.matcher(line);
        if (typing.matches()) {
            shown.add("type");
            for (char b : typing.group(1).toCharArray()) {
                x.type(b);
            }
        } else if (call.matches() && methods.containsKey(call.group(1))) {
            shown.add(call.group(1));
            c.due(line, answer(methods.get(call.group(1)), call.group(2)), Long.parseLong(call.group(3)));
        } else if (!line.isEmpty() && !line.startsWith("// ")) {
            c.due("the line that makes the object", line, "TwigMatches x = new TwigMatches();");
        }
    }

    private static long answer(Method method, String listed) throws Exception {
        String[] words = listed.isEmpty() ? new String[0] : listed.split(", ");
        Class<?>[] types = method.getParameterTypes();
        if (words.length != types.length) {
            throw new IllegalArgumentException(method.getName() + " with " + words.length + " arguments");
        }
        Object[] values = new Object[words.length];
        for (int k = 0; k < words.length; k++) {
            long value = Long.parseLong(words[k]);
            values[k] = types[k] == long.class ? (Object) value : (Object) (int) value;
        }
        return ((Number) method.invoke(x, values)).longValue();
    }
}
