import java.io.IOException;
import java.lang.reflect.Method;
import java.nio.file.Files;
import java.nio.file.Path;
import java.util.Set;
import java.util.TreeSet;
import java.util.regex.Matcher;
import java.util.regex.Pattern;

/** README.md tells how the class is used: each call in it answers the number behind it, and each call of the face is named. */
public final class ReadmeTest {
    private static final Pattern CALL = Pattern.compile("(?m)^x\\.(\\w+)\\(([^)]*)\\); +// (-?\\d+)$");

    public static void main(String[] args) throws IOException, ReflectiveOperationException {
        String text = Files.readString(Path.of("README.md"));
        calls(text);
        names(text);
        commands(text);
        Due.end();
    }

    private static void calls(String text) throws ReflectiveOperationException {
        HoneyWinds x = new HoneyWinds();
        int calls = 0;
        Matcher m = CALL.matcher(text);
        while (m.find()) {
            calls++;
            Due.due(m.group(), answer(x, m.group(1), m.group(2)), Integer.parseInt(m.group(3)));
        }
        Due.due("lines of README.md that call, and are not read", lines(text, "x\\..*") - calls, 0);
        Due.due("calls in README.md: none", calls == 0 ? 1 : 0, 0);
    }

    private static long lines(String text, String like) {
        return text.lines().filter(l -> l.matches(like)).count();
    }

    private static int answer(HoneyWinds x, String name, String told) throws ReflectiveOperationException {
        for (Method m : HoneyWinds.class.getMethods()) {
            if (m.getName().equals(name) && m.getDeclaringClass() == HoneyWinds.class) {
                String[] parts = told.isEmpty() ? new String[0] : told.split(", ");
                Object[] with = new Object[parts.length];
                for (int i = 0; i < parts.length; i++) {
                    with[i] = read(parts[i], m.getParameterTypes()[i]);
                }
                return (Integer) m.invoke(x, with);
            }
        }
        throw new NoSuchMethodException(name);
    }

    private static Object read(String part, Class<?> type) {
        if (type == boolean.class) {
            return part.equals("true");
        }
        long n = Long.decode(part.replace("L", ""));
        if (type == long.class) {
            return n;
        }
        return (int) n;
    }

    private static void names(String text) {
        Set<String> face = new TreeSet<>();
        for (Method m : HoneyWinds.class.getMethods()) {
            if (m.getDeclaringClass() == HoneyWinds.class) {
                face.add(m.getName());
            }
        }
        for (String name : face) {
            Due.due("README.md names " + name, text.contains("`" + name + "`") ? 1 : 0, 1);
        }
    }

    private static void commands(String text) throws IOException {
        Due.due("README.md names .ci/run", text.contains("    bash .ci/run\n") ? 1 : 0, 1);
        try (var tests = Files.list(Path.of("src/test/java"))) {
            tests.map(p -> p.getFileName().toString().replace(".java", "")).filter(n -> n.endsWith("Test")).sorted()
                .forEach(n -> Due.due("README.md names " + n, text.contains("`" + n + "`") ? 1 : 0, 1));
        }
    }
}
