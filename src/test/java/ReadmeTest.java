import java.io.IOException;
import java.lang.reflect.InvocationTargetException;
import java.lang.reflect.Method;
import java.nio.file.Files;
import java.nio.file.Path;
import java.util.Arrays;
import java.util.Map;
import java.util.Set;
import java.util.TreeMap;
import java.util.TreeSet;
import java.util.regex.Matcher;
import java.util.regex.Pattern;

/** The calls that README.md shows answer as it says behind them, and it shows each call of the face. */
public final class ReadmeTest {
    private static final Pattern CALL = Pattern.compile("x\\.(\\w+)\\((.*?)\\); +// (throws )?([^ :,]+)(?:[:,] .*)?");
    private static final Map<String, Method> FACE = new TreeMap<>();
    private static final Set<String> SHOWN = new TreeSet<>();
    private static DiceLaw x;

    private static Object number(String told, Class<?> type) {
        long v = Long.decode(told);
        if (type == long.class) {
            return v;
        }
        // hexadecimal numbers of an int reach up to 0xFFFFFFFF
        return (int) v;
    }

    private static String answer(Method m, String told) throws IllegalAccessException {
        String[] row = told.isEmpty() ? new String[0] : told.split(", *");
        Class<?>[] types = m.getParameterTypes();
        if (row.length != types.length) {
            return "no such call";
        }
        Object[] arguments = new Object[row.length];
        for (int i = 0; i < row.length; i++) {
            arguments[i] = number(row[i], types[i]);
        }
        try {
            return String.valueOf(m.invoke(x, arguments)).replace("null", "void");
        } catch (InvocationTargetException e) {
            return "throws " + e.getCause().getClass().getSimpleName();
        }
    }

    private static void line(String line) throws IllegalAccessException {
        if (line.equals("DiceLaw x = new DiceLaw();")) {
            x = new DiceLaw();
            return;
        }
        Matcher m = CALL.matcher(line);
        boolean read = m.matches() && x != null && FACE.containsKey(m.group(1));
        Due.is("README.md: a call and its answer: " + line, read, true);
        if (read) {
            SHOWN.add(m.group(1));
            String want = m.group(4).replace("NONE", "-1").replace("HIDDEN", "-1000000000");
            want = m.group(3) == null ? want : m.group(3) + want;
            String got = answer(FACE.get(m.group(1)), m.group(2));
            Due.is("README.md: " + line + " answered " + got, got.equals(want), true);
        }
    }

    public static void main(String[] args) throws IOException, IllegalAccessException {
        Arrays.stream(DiceLaw.class.getMethods()).filter(m -> m.getDeclaringClass() == DiceLaw.class)
                .forEach(m -> FACE.put(m.getName(), m));
        boolean inside = false;
        for (String line : Files.readAllLines(Path.of("README.md"))) {
            if (line.startsWith("```")) {
                inside = line.equals("```java");
            } else if (inside) {
                line(line);
            }
        }
        for (String name : FACE.keySet()) {
            Due.is("README.md shows " + name, SHOWN.contains(name), true);
        }
        Due.close("ReadmeTest");
    }
}
