import java.io.IOException;
import java.lang.reflect.InvocationTargetException;
import java.lang.reflect.Method;
import java.nio.charset.StandardCharsets;
import java.nio.file.Files;
import java.nio.file.Path;
import java.util.regex.Matcher;
import java.util.regex.Pattern;

/** README's example: each call answers what stands behind it. */
public final class ReadmeTest {
    private static final Pattern CALL = Pattern.compile("land\\.(\\w+)\\((.*)\\); +// (-?\\d+)(:.*)?");
    private static final int FEWEST = 10;

    private static int called;
    private static int wrong;

    private static void fault(String what) {
        wrong++;
        System.out.println(what);
    }

    private static String example() throws IOException {
        String text = Files.readString(Path.of("README.md"), StandardCharsets.UTF_8);
        int from = text.indexOf("```java\n");
        int to = text.indexOf("```", from + 3);
        return from < 0 || to < 0 ? "" : text.substring(from + 8, to);
    }

    private static Method callNamed(String name) {
        for (Method each : RefusedOnce.class.getMethods()) {
            if (each.getDeclaringClass() == RefusedOnce.class && each.getName().equals(name)) return each;
        }
        return null;
    }

    private static Object[] arguments(Method method, String told) {
        String[] words = told.isEmpty() ? new String[0] : told.split(", ");
        Class<?>[] types = method.getParameterTypes();
        if (words.length != types.length) return null;
        Object[] all = new Object[words.length];
        for (int i = 0; i < words.length; i++) {
            long v = words[i].startsWith("'") ? words[i].charAt(1) : Long.parseLong(words[i]);
            if (types[i] == long.class) all[i] = v;
            else all[i] = (int) v;
        }
        return all;
    }

    private static void call(RefusedOnce land, String line) throws IllegalAccessException, InvocationTargetException {
        Matcher told = CALL.matcher(line);
        Method method = told.matches() ? callNamed(told.group(1)) : null;
        Object[] arguments = method == null ? null : arguments(method, told.group(2));
        if (arguments == null) {
            fault("this is no call with its answer: " + line);
            return;
        }
        called++;
        long got = ((Number) method.invoke(land, arguments)).longValue();
        if (got != Long.parseLong(told.group(3))) fault(line + ": it answered " + got);
    }

    public static void main(String[] args) throws IOException, IllegalAccessException, InvocationTargetException {
        String[] lines = example().split("\n");
        if (!lines[0].equals("RefusedOnce land = new RefusedOnce();")) fault("the example makes no object");
        RefusedOnce land = new RefusedOnce();
        for (int i = 1; i < lines.length; i++) call(land, lines[i]);
        if (called < FEWEST) fault("the example has " + called + " calls");
        System.out.println(called + " calls of the example, " + wrong + " wrong");
        if (wrong != 0) System.exit(1);
    }
}
