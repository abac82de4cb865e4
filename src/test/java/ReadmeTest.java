import java.io.IOException;
import java.lang.reflect.InvocationTargetException;
import java.lang.reflect.Method;
import java.lang.reflect.Modifier;
import java.nio.file.Files;
import java.nio.file.Path;
import java.util.List;
import java.util.TreeMap;
import java.util.TreeSet;
import java.util.regex.Matcher;
import java.util.regex.Pattern;

/** The lines of README.md that show the class in use: each answers what stands behind it, and every call is shown. */
public final class ReadmeTest {
    private static final Pattern CALL = Pattern.compile("^    x\\.(\\w+)\\(([-0-9, ]*)\\); +// (-?\\d+): .+$");
    private static final Pattern FEEDS = Pattern.compile("^    for \\(char c : \"(.*)\"\\.toCharArray\\(\\)\\) x\\.feed\\(c\\);$");

    private static final TreeMap<String, Method> FACE = new TreeMap<>();
    private static final TreeSet<String> shown = new TreeSet<>();
    private static FlownOnceAndLaid x = null;

    public static void main(String[] args) throws IOException, IllegalAccessException, InvocationTargetException {
        for (Method method : FlownOnceAndLaid.class.getDeclaredMethods()) {
            if (Modifier.isPublic(method.getModifiers())) {
                FACE.put(method.getName(), method);
            }
        }
        List<String> lines = Files.readAllLines(Path.of("README.md"));
        for (String line : lines) {
            follow(line);
        }
        for (String name : FACE.keySet()) {
            Due.is(name + "() is shown", shown.contains(name) ? 1 : 0, 1);
        }
        Due.end();
    }

    private static void follow(String line) throws IllegalAccessException, InvocationTargetException {
        Matcher call = CALL.matcher(line);
        Matcher feeds = FEEDS.matcher(line);
        if (line.equals("    FlownOnceAndLaid x = new FlownOnceAndLaid();")) {
            x = new FlownOnceAndLaid();
        } else if (feeds.matches()) {
            shown.add("feed");
            Due.feed(x, feeds.group(1));
        } else if (call.matches()) {
            shown.add(call.group(1));
            Due.is(line.strip(), answer(call.group(1), call.group(2)), Long.parseLong(call.group(3)));
        } else if (line.contains("x.")) {
            Due.fails("a line that can't be followed: " + line);
        }
    }

    private static long answer(String name, String numbers) throws IllegalAccessException, InvocationTargetException {
        String[] parts = numbers.isEmpty() ? new String[0] : numbers.split(", ");
        Object[] values = new Object[parts.length];
        for (int i = 0; i < parts.length; i++) {
            values[i] = Integer.parseInt(parts[i]);
        }
        return ((Number) FACE.get(name).invoke(x, values)).longValue();
    }
}
