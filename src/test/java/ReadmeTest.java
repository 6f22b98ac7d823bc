import java.io.IOException;
import java.lang.reflect.InvocationTargetException;
import java.lang.reflect.Method;
import java.nio.file.Files;
import java.nio.file.Path;
import java.util.HashSet;
import java.util.Set;
import java.util.TreeSet;
import java.util.regex.Matcher;
import java.util.regex.Pattern;

/** Runs the calls that README.md tells, one behind the other, and asks that they answer what it says. */
public final class ReadmeTest {
    private static final Due DUE = new Due();
    private static final Pattern CALL = Pattern.compile("x\\.([a-zA-Z]+)\\((.*)\\); *// (-?[0-9]+|[A-Z]+)(:.*)?");

    public static void main(String[] args) throws IOException, ReflectiveOperationException {
        UnsoldAtEleven x = null;
        Set<String> called = new HashSet<>();
        boolean inJava = false;
        for (String line : Files.readAllLines(Path.of("README.md"))) {
            if (line.startsWith("```")) {
                inJava = line.equals("```java");
            } else if (inJava && line.equals("UnsoldAtEleven x = new UnsoldAtEleven();")) {
                x = new UnsoldAtEleven();
            } else if (inJava) {
                called.add(run(x, line));
            }
        }
        everyCallIsTold(called);
        DUE.end();
    }

    private static String run(UnsoldAtEleven x, String line) throws ReflectiveOperationException {
        Matcher told = CALL.matcher(line);
        if (!told.matches()) {
            DUE.of("no call is told by: " + line, 0, 1);
            return "";
        }
        DUE.of(line, answer(x, method(told.group(1)), told.group(2)), number(told.group(3)));
        return told.group(1);
    }

    private static long number(String told) throws ReflectiveOperationException {
        return Character.isLetter(told.charAt(0)) ? UnsoldAtEleven.class.getField(told).getInt(null) : Long.decode(told);
    }

    private static Method method(String name) {
        for (Method m : UnsoldAtEleven.class.getMethods()) {
            if (m.getName().equals(name)) {
                return m;
            }
        }
        throw new IllegalStateException("README.md tells a call that there is not: " + name);
    }

    private static long answer(UnsoldAtEleven x, Method method, String told)
            throws IllegalAccessException, InvocationTargetException {
        String[] words = told.isEmpty() ? new String[0] : told.split(", ");
        Object[] values = new Object[words.length];
        for (int i = 0; i < words.length; i++) {
            Class<?> type = method.getParameterTypes()[i];
            if (type == boolean.class) {
                values[i] = Boolean.valueOf(words[i]);
            } else if (type == long.class) {
                values[i] = Long.decode(words[i].replace("L", ""));
            } else {
                values[i] = Integer.decode(words[i]);
            }
        }
        return ((Number) method.invoke(x, values)).longValue();
    }

    private static void everyCallIsTold(Set<String> called) {
        Set<String> missing = new TreeSet<>();
        for (Method m : UnsoldAtEleven.class.getDeclaredMethods()) {
            if (java.lang.reflect.Modifier.isPublic(m.getModifiers())) {
                missing.add(m.getName());
            }
        }
        missing.removeAll(called);
        DUE.of("README.md tells no call of " + missing, missing.size(), 0);
    }
}
