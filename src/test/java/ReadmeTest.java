import java.io.IOException;
import java.lang.reflect.Method;
import java.nio.file.Files;
import java.nio.file.Path;
import java.util.ArrayList;
import java.util.HashMap;
import java.util.List;
import java.util.Map;
import java.util.Set;
import java.util.TreeSet;
import java.util.regex.Matcher;
import java.util.regex.Pattern;

/** The calls that README.md shows answer as it says, and it shows every call of the face. */
public final class ReadmeTest {
    private static final Pattern NEW = Pattern.compile("RightIfAsMany (\\w+) = new RightIfAsMany\\(\\);");
    private static final Pattern CALL =
        Pattern.compile("(\\w+)\\.(\\w+)\\((.*)\\); +// (-?\\d+)(?: \\(([A-Z]+)\\))?(?:[ :].*)?");
    private static final Pattern BYTES = Pattern.compile(" bytes: \"([^\"]*)\"");
    private static final Pattern CONSTANT = Pattern.compile("`([A-Z]+)` \\((-\\d+)\\)");
    private static final Pattern FILE = Pattern.compile("`((?:src/|\\.ci/)?[\\w/]+\\.(?:java|md))`");

    private final Map<String, RightIfAsMany> objects = new HashMap<>();
    private final Map<String, Integer> calls = new HashMap<>();
    private final Set<String> shown = new TreeSet<>();

    public static void main(String[] args) throws ReflectiveOperationException, IOException {
        Path root = Path.of(args.length > 0 ? args[0] : ".");
        String readme = Files.readString(root.resolve("README.md"));
        new ReadmeTest().run(readme);
        constants(readme);
        files(root, readme);
        Check.holds("README.md says how the tests are run", readme.contains("\n    .ci/run\n"));
        Check.holds(".ci/run can be run", Files.isExecutable(root.resolve(".ci/run")));
        Check.end();
    }

    private void run(String readme) throws ReflectiveOperationException {
        boolean code = false;
        for (String line : readme.split("\n")) {
            if (line.startsWith("```")) {
                code = line.equals("```java");
            } else if (code) {
                make(line);
            }
        }
        Set<String> face = new TreeSet<>();
        for (Method method : RightIfAsMany.class.getMethods()) {
            if (method.getDeclaringClass() == RightIfAsMany.class) {
                face.add(method.getName());
            }
        }
        face.removeAll(shown);
        Check.holds("README.md shows every call, but not " + face, face.isEmpty());
        for (Map.Entry<String, Integer> one : calls.entrySet()) {
            Check.holds(one.getKey() + " is used for 512 calls at most", one.getValue() <= 512);
        }
    }

    private void make(String line) throws ReflectiveOperationException {
        Matcher made = NEW.matcher(line);
        Matcher call = CALL.matcher(line);
        if (made.matches()) {
            objects.put(made.group(1), new RightIfAsMany());
        } else {
            Check.holds("README.md tells a call and its answer: " + line, call.matches());
            if (call.matches()) {
                ask(line, call);
            }
        }
    }

    private void ask(String line, Matcher call) throws ReflectiveOperationException {
        RightIfAsMany x = objects.get(call.group(1));
        List<String> told = new ArrayList<>();
        for (String one : call.group(3).split(", ")) {
            if (!one.isEmpty()) {
                told.add(one);
            }
        }
        Method method = methodOf(call.group(2), told.size());
        Check.holds("README.md has made the object and the face has the call: " + line, x != null && method != null);
        if (x == null || method == null) {
            return;
        }
        Object[] values = new Object[told.size()];
        for (int i = 0; i < values.length; i++) {
            values[i] = value(told.get(i), method.getParameterTypes()[i]);
        }
        Check.due(line, ((Number) method.invoke(x, values)).longValue(), Long.parseLong(call.group(4)));
        shown.add(method.getName());
        calls.merge(call.group(1), 1, Integer::sum);
        names(line, call);
    }

    /** The name behind an answer is that of its constant, and the bytes are those of the number. */
    private static void names(String line, Matcher call) throws ReflectiveOperationException {
        long answer = Long.parseLong(call.group(4));
        Check.holds("README.md names the constant of " + line, (answer < 0) == (call.group(5) != null));
        if (call.group(5) != null) {
            Check.due(line, RightIfAsMany.class.getField(call.group(5)).getInt(null), answer);
        }
        Matcher bytes = BYTES.matcher(line);
        if (bytes.find() && call.group(3).contains("0x")) {
            String number = call.group(3).substring(call.group(3).indexOf(", ") + 2);
            Check.due("the bytes of " + line, (long) value(number, long.class), Check.bytes(bytes.group(1)));
        }
    }

    private static Method methodOf(String name, int parameters) {
        for (Method method : RightIfAsMany.class.getMethods()) {
            if (method.getName().equals(name) && method.getParameterCount() == parameters) {
                return method;
            }
        }
        return null;
    }

    private static Object value(String told, Class<?> kind) {
        if (kind == boolean.class) {
            Check.holds(told + " is true or false", told.equals("true") || told.equals("false"));
            return Boolean.valueOf(told);
        }
        if (told.startsWith("'")) {
            return (long) told.charAt(1);
        }
        long number = Long.decode(told.replace("L", ""));
        if (kind == long.class) {
            return number;
        }
        return (int) number;
    }

    private static void constants(String readme) throws ReflectiveOperationException {
        Set<String> named = new TreeSet<>();
        Matcher constant = CONSTANT.matcher(readme);
        while (constant.find()) {
            named.add(constant.group(1));
            int value = RightIfAsMany.class.getField(constant.group(1)).getInt(null);
            Check.due(constant.group(), value, Integer.parseInt(constant.group(2)));
        }
        Check.due("README.md tells the constants", named.size(), RightIfAsMany.class.getFields().length);
    }

    /** Files of the project that README.md names are there. */
    private static void files(Path root, String readme) {
        Matcher file = FILE.matcher(readme);
        while (file.find()) {
            String name = file.group(1);
            boolean there = Files.exists(root.resolve(name)) || Files.exists(root.resolve("src/test/java").resolve(name));
            Check.holds("README.md names " + name + ", which is there", there);
        }
    }
}
