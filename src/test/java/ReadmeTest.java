import java.io.IOException;
import java.lang.reflect.InvocationTargetException;
import java.lang.reflect.Method;
import java.nio.file.Files;
import java.nio.file.Path;
import java.util.regex.Matcher;
import java.util.regex.Pattern;

/** The calls that README.md shows, in their order on one object, each with the answer behind it. */
public final class ReadmeTest {
    private static final Pattern ROW = Pattern.compile("x\\.(\\w+)\\(([^)]*)\\);\\s+// (-?\\d+): .+");

    public static void main(String[] args) throws IOException, ReflectiveOperationException {
        String page = Files.readString(Path.of(args.length > 0 ? args[0] : "README.md"));
        EggReasons x = new EggReasons();
        int rows = 0;
        for (String line : page.split("\n")) {
            if (!line.startsWith("x.")) continue;
            rows++;
            Matcher row = ROW.matcher(line);
            if (row.matches()) Check.due("README: " + line, answer(x, row.group(1), row.group(2)), Long.parseLong(row.group(3)));
            else Check.same("README: a row", line, "a call and its answer");
        }
        // A page whose rows are written another way must not pass because none was found.
        Check.due("README shows some calls", rows >= 10 ? 1 : 0, 1);
        Check.end();
    }

    private static long answer(EggReasons x, String name, String given) throws ReflectiveOperationException {
        String[] words = given.isEmpty() ? new String[0] : given.split(",\\s*");
        for (Method m : EggReasons.class.getMethods()) {
            if (m.getName().equals(name) && m.getDeclaringClass() == EggReasons.class) return call(x, m, words);
        }
        throw new NoSuchMethodException(name);
    }

    private static long call(EggReasons x, Method m, String[] words) throws IllegalAccessException, InvocationTargetException {
        Class<?>[] types = m.getParameterTypes();
        Check.due(m.getName() + " takes so many numbers", words.length, types.length);
        Object[] numbers = new Object[types.length];
        for (int i = 0; i < types.length && i < words.length; i++) {
            if (types[i] == long.class) numbers[i] = Long.decode(words[i]);
            else numbers[i] = Integer.decode(words[i]);
        }
        return ((Number) m.invoke(x, numbers)).longValue();
    }
}
