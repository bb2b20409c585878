import java.io.IOException;
import java.lang.reflect.Method;
import java.lang.reflect.Modifier;
import java.nio.file.Files;
import java.nio.file.Path;
import java.util.Map;
import java.util.Set;
import java.util.TreeMap;
import java.util.TreeSet;
import java.util.regex.Matcher;
import java.util.regex.Pattern;
import java.util.stream.Stream;

// Each call that README.md shows answers what README.md says behind it, each call of the face is
// shown there, and each test of the project is named there.
public final class ReadmeTest {
    private static final Path README = Path.of("README.md");
    private static final Path TESTS = Path.of("src/test/java");
    private static final Pattern MADE = Pattern.compile("StillRoom room = new StillRoom\\(\\);( +// .*)?");
    private static final Pattern CALL = Pattern.compile("room\\.(\\w+)\\(([^()]*)\\); +// (-?\\d+): .*");
    private static final Map<String, Method> FACE = new TreeMap<>();
    private static int wrong = 0;

    public static void main(String[] args) throws Exception {
        for (Method method : StillRoom.class.getDeclaredMethods()) {
            if (Modifier.isPublic(method.getModifiers())) {
                FACE.put(method.getName(), method);
            }
        }
        calls();
        tests();
        System.out.println(wrong == 0 ? "README.md says what is so" : wrong + " of README.md is not so");
        if (wrong != 0) {
            System.exit(1);
        }
    }

    private static void must(boolean right, String what) {
        if (!right) {
            wrong++;
            System.out.println(what);
        }
    }

    private static void calls() throws Exception {
        Set<String> shown = new TreeSet<>();
        StillRoom room = null;
        boolean inside = false;
        for (String line : Files.readAllLines(README)) {
            if (line.startsWith("```")) {
                inside = line.equals("```java");
            } else if (inside && MADE.matcher(line).matches()) {
                room = new StillRoom();
            } else if (inside) {
                Matcher call = CALL.matcher(line);
                boolean reads = room != null && call.matches() && FACE.containsKey(call.group(1));
                must(reads, "this is no call with its answer: " + line);
                if (reads) {
                    shown.add(call.group(1));
                    long got = answer(room, FACE.get(call.group(1)), call.group(2));
                    must(got == Long.parseLong(call.group(3)), line + " (it answered " + got + ")");
                }
            }
        }
        must(shown.equals(FACE.keySet()), "README.md shows " + shown + ", the face has " + FACE.keySet());
    }

    private static long answer(StillRoom room, Method method, String words) throws Exception {
        String[] parts = words.isEmpty() ? new String[0] : words.split(", ");
        Class<?>[] types = method.getParameterTypes();
        if (parts.length != types.length) {
            must(false, method.getName() + " takes " + types.length + ": " + words);
            return 0;
        }
        Object[] values = new Object[types.length];
        for (int i = 0; i < types.length; i++) {
            values[i] = value(types[i], parts[i]);
        }
        return ((Number) method.invoke(room, values)).longValue();
    }

    private static Object value(Class<?> type, String word) {
        if (type == boolean.class) {
            must(word.equals("true") || word.equals("false"), "neither true nor false: " + word);
            return word.equals("true");
        }
        if (type == int.class) {
            return Integer.decode(word);
        }
        must(word.endsWith("L"), "no long: " + word);
        return Long.decode(word.replace("L", ""));
    }

    private static void tests() throws IOException {
        Set<String> there = new TreeSet<>();
        try (Stream<Path> files = Files.list(TESTS)) {
            files.forEach(file -> there.add(file.getFileName().toString().replace(".java", "")));
        }
        Set<String> named = new TreeSet<>();
        Matcher name = Pattern.compile("(?m)^- `(\\w+)`: ").matcher(Files.readString(README));
        while (name.find()) {
            named.add(name.group(1));
        }
        must(named.equals(there), "README.md names the tests " + named + ", there are " + there);
        must(Files.isExecutable(Path.of(".ci/run")), ".ci/run can not be run");
    }
}
