import java.io.IOException;
import java.lang.reflect.Constructor;
import java.lang.reflect.Field;
import java.lang.reflect.Method;
import java.lang.reflect.Modifier;
import java.nio.file.Files;
import java.nio.file.Path;
import java.util.ArrayList;
import java.util.List;
import java.util.Set;
import java.util.TreeSet;
import java.util.regex.Matcher;
import java.util.regex.Pattern;

// The face of the class, and the rules of LANGUAGE.md that can be seen from its text or its shape.
public final class SourceTest {
    private static final String SOURCE = "src/main/java/StillRoom.java";
    private static final String DOCUMENT = "../shared/DOC.md";
    private static final Set<String> LIBRARY = Set.of("Math.min", "Math.max", "Math.abs", "Math.floorMod",
            "Math.floorDiv", "Integer.bitCount", "System.arraycopy");
    private static int wrong = 0;

    private static void must(boolean right, String what) {
        if (!right) {
            wrong++;
            System.out.println(what);
        }
    }

    public static void main(String[] args) throws IOException {
        String source = Files.readString(Path.of(SOURCE));
        face();
        classes();
        words(bare(source));
        lengths(source);
        allocatesNothing();
        System.out.println(wrong == 0 ? "the source keeps to its rules" : wrong + " rules are broken");
        if (wrong != 0) {
            System.exit(1);
        }
    }

    private static void face() throws IOException {
        Set<String> want = new TreeSet<>();
        Matcher line = Pattern.compile("(?m)^    public (int|long) (\\w+)\\(([^)]*)\\);$")
                .matcher(Files.readString(Path.of(DOCUMENT)));
        while (line.find()) {
            want.add(line.group(1) + " " + line.group(2) + "(" + line.group(3).replaceAll(" \\w+(,|$)", "$1") + ")");
        }
        Set<String> got = new TreeSet<>();
        for (Method method : StillRoom.class.getDeclaredMethods()) {
            if (Modifier.isPublic(method.getModifiers())) {
                List<String> types = new ArrayList<>();
                for (Class<?> type : method.getParameterTypes()) {
                    types.add(type.getName());
                }
                got.add(method.getReturnType() + " " + method.getName() + "(" + String.join(", ", types) + ")");
            } else {
                must(Modifier.isPrivate(method.getModifiers()), "not private: " + method);
            }
        }
        must(want.size() == 32 && got.equals(want), "the face is " + got + ", due is " + want);
        Constructor<?>[] constructors = StillRoom.class.getDeclaredConstructors();
        must(constructors.length == 1 && Modifier.isPublic(constructors[0].getModifiers())
                && constructors[0].getParameterCount() == 0, "the constructor");
        must(Modifier.isFinal(StillRoom.class.getModifiers()), "the class is final");
    }

    private static void classes() {
        Set<String> open = new TreeSet<>();
        for (Method method : StillRoom.class.getDeclaredMethods()) {
            if (Modifier.isPublic(method.getModifiers())) {
                open.add(method.getName());
            }
        }
        List<Class<?>> all = new ArrayList<>(List.of(StillRoom.class.getDeclaredClasses()));
        must(all.size() < 12, "at most twelve classes");
        for (Class<?> inside : all) {
            must(Modifier.isStatic(inside.getModifiers()), inside + " is static");
        }
        all.add(StillRoom.class);
        for (Class<?> one : all) {
            int fields = 0;
            for (Field field : one.getDeclaredFields()) {
                int modifiers = field.getModifiers();
                boolean constant = Modifier.isStatic(modifiers);
                must(!constant || Modifier.isFinal(modifiers), field + " is final");
                must(one != StillRoom.class || Modifier.isPrivate(modifiers), field + " is private");
                fields += constant ? 0 : 1;
            }
            must(fields <= 20, one + " has at most twenty fields");
            for (Method method : one.getDeclaredMethods()) {
                must(Modifier.isPublic(method.getModifiers()) || !open.contains(method.getName()),
                        method + " bears a public name");
                must(method.getParameterCount() <= 7, method + " takes at most seven");
            }
        }
    }

    /** The source without comments and characters in quotes. */
    private static String bare(String source) {
        return source.replaceAll("(?s)/\\*.*?\\*/", "").replaceAll("//[^\n]*", "").replaceAll("'.'", "0");
    }

    private static void words(String source) {
        Matcher forbidden = Pattern.compile("\\b(throw|try|catch|synchronized|assert|import|package|instanceof"
                + "|float|double|native|Object|Random|Thread)\\b|->|::|\"|\\w+Exact\\b").matcher(source);
        while (forbidden.find()) {
            must(false, "not allowed: " + forbidden.group());
        }
        Matcher library = Pattern.compile("\\b[A-Z][a-z]\\w*\\.\\w+").matcher(source);
        while (library.find()) {
            must(LIBRARY.contains(library.group()), "not allowed: " + library.group());
        }
    }

    private static void lengths(String source) {
        int start = 0;
        String[] lines = source.split("\n");
        for (int i = 0; i < lines.length; i++) {
            String line = lines[i];
            if (line.matches("(    |        )[a-zA-Z].*\\) \\{")) {
                start = i;
            }
            if (line.matches("(    |        )\\}")) {
                must(i - start <= 60, "line " + start + ": a method of more than sixty lines");
            }
            must(line.length() <= 110, "line " + (i + 1) + " is too long");
        }
    }

    /** All calls of a run live in one room: no call but the first image makes anything. */
    private static void allocatesNothing() {
        com.sun.management.ThreadMXBean threads =
                (com.sun.management.ThreadMXBean) java.lang.management.ManagementFactory.getThreadMXBean();
        StillRoom x = new StillRoom();
        for (int i = 0; i < 8; i++) {
            x.hand(1 << i % 4);
        }
        use(x);
        long before = threads.getCurrentThreadAllocatedBytes();
        for (int i = 0; i < 20; i++) {
            use(x);
        }
        long bytes = threads.getCurrentThreadAllocatedBytes() - before;
        must(bytes < 4096, "calls made " + bytes + " bytes");
    }

    private static void use(StillRoom x) {
        x.feed(8, 0x3b6870613b683b68L);
        x.house();
        x.sight(0, 1);
        x.tie(0, 2);
        x.guess(1, 1);
        x.known(7, true);
        x.stays(3);
        x.safe(3);
        x.losers();
        x.carriers();
        x.keys();
        x.monday(0, 1, 1);
        x.mend(4, 0, -1);
        x.walls(4);
        x.bank(5);
        x.giving(4, 1, 4);
        x.finest(3, 3);
        x.loses();
        x.carries();
        x.run(50, 7, 0);
        x.put(1);
        x.judge(0);
        x.image();
        x.restore();
    }
}
