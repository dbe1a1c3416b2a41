import java.io.IOException;
import java.lang.reflect.InvocationTargetException;
import java.lang.reflect.Method;
import java.nio.file.Files;
import java.nio.file.Path;
import java.util.Arrays;
import java.util.HashMap;
import java.util.Map;
import java.util.TreeSet;
import java.util.regex.Matcher;
import java.util.regex.Pattern;

/** Makes the calls that README.md shows, and compares what they do with what it says of them. */
public final class PlaceNetReadmeTest {
    private static final Pattern MADE = Pattern.compile("PlaceNet net = new PlaceNet\\(\\); +// .+");
    private static final Pattern SHOWN =
            Pattern.compile("(?:int (\\w+) = )?net\\.(\\w+)\\(([^()]*)\\); +// (.+)");
    private static final Pattern SAID = Pattern.compile("(?:throws (\\w+)|(-?\\d+)): .+");

    private static final Check check = new Check();
    private static final Map<String, Integer> variables = new HashMap<>();
    private static final TreeSet<String> shown = new TreeSet<>();
    private static PlaceNet net;

    public static void main(String[] args) throws IOException, ReflectiveOperationException {
        boolean inside = false;
        for (String line : Files.readAllLines(Path.of("README.md"))) {
            check.about("README.md, " + line);
            if (line.startsWith("```")) {
                inside = line.equals("```java");
            } else if (inside && !line.isBlank()) {
                take(line);
            }
        }
        check.about("README.md");
        check.same("the calls shown", shown.toString(), face().toString());
        check.end();
    }

    private static TreeSet<String> face() {
        TreeSet<String> names = new TreeSet<>();
        for (Method m : PlaceNet.class.getMethods()) {
            if (m.getDeclaringClass() == PlaceNet.class) {
                names.add(m.getName());
            }
        }
        return names;
    }

    private static void take(String line) throws ReflectiveOperationException {
        Matcher call = SHOWN.matcher(line);
        if (MADE.matcher(line).matches()) {
            net = new PlaceNet();
        } else if (call.matches() && net != null) {
            makeCall(call);
        } else {
            check.fail("isn't a call that can be read");
        }
    }

    private static void makeCall(Matcher call) throws ReflectiveOperationException {
        shown.add(call.group(2));
        String got;
        try {
            Object answer = method(call.group(2), call.group(3)).invoke(net, values(call.group(3)));
            got = String.valueOf(answer);
            if (call.group(1) != null) {
                variables.put(call.group(1), (Integer) answer);
            }
        } catch (InvocationTargetException e) {
            got = "throws " + e.getCause().getClass().getSimpleName();
        }
        check.same("the call", got, due(call.group(4)));
    }

    /** What a call that answers nothing gives by reflection is "null". */
    private static String due(String comment) {
        Matcher said = SAID.matcher(comment);
        if (!said.matches()) {
            return "null";
        }
        return said.group(1) != null ? "throws " + said.group(1) : said.group(2);
    }

    private static Method method(String name, String arguments) throws NoSuchMethodException {
        Class<?>[] types = new Class<?>[arguments.split(",").length];
        Arrays.fill(types, int.class);
        return PlaceNet.class.getMethod(name, types);
    }

    private static Object[] values(String arguments) {
        String[] parts = arguments.split(",");
        Object[] values = new Object[parts.length];
        for (int i = 0; i < parts.length; i++) {
            String part = parts[i].trim();
            values[i] = variables.containsKey(part) ? variables.get(part)
                    : part.startsWith("0x") ? Integer.parseUnsignedInt(part.substring(2), 16)
                    : Integer.parseInt(part);
        }
        return values;
    }
}
