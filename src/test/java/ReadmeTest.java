import java.io.IOException;
import java.lang.reflect.Field;
import java.lang.reflect.Method;
import java.lang.reflect.Modifier;
import java.net.URL;
import java.net.URLClassLoader;
import java.nio.file.Files;
import java.nio.file.Path;
import java.util.Comparator;
import java.util.List;
import java.util.Set;
import java.util.TreeSet;
import java.util.regex.Matcher;
import java.util.regex.Pattern;
import java.util.stream.Stream;
import javax.tools.JavaCompiler;
import javax.tools.ToolProvider;

/**
 * README.md: the Java that it shows is compiled and run as it stands there, all of it on one object, and each answer
 * that stands behind // must be the one that its call gives.
 */
public final class ReadmeTest {
    private static final Path README = Path.of("README.md");
    private static final Pattern ASKED = Pattern.compile("^\\s*(x\\.(\\w+)\\(.*\\));\\s*//\\s*(-?\\d+|[A-Z]+)\\b.*$");
    private static final Pattern ROW = Pattern.compile("(?m)^\\| `([A-Z]+)` \\| (-?\\d+) \\|");
    private static final Check CHECK = new Check();
    private static final Set<String> SHOWN = new TreeSet<>();

    public static void main(String[] args) throws Exception {
        String page = Files.readString(README);
        make(program(page));
        everyCallIsShown();
        constants(page);
        testsAreNamed(page);
        CHECK.finish();
    }

    /** What a call with an answer behind it becomes is told to this class; it is public for that alone. */
    public static void due(String call, long got, long want) {
        CHECK.due("README.md: " + call, got, want);
    }

    /** The page's Java in a main method, each call that has an answer behind it inside a due(). */
    private static String program(String page) {
        StringBuilder lines = new StringBuilder("public final class Shown {\n  public static void main(String[] a) {\n");
        boolean java = false;
        for (String line : page.split("\n")) {
            if (line.startsWith("```")) {
                java = line.equals("```java");
            } else if (java) {
                lines.append(asked(line)).append('\n');
            }
        }
        return lines.append("  }\n}\n").toString();
    }

    private static String asked(String line) {
        Matcher m = ASKED.matcher(line);
        if (!m.matches()) {
            CHECK.holds("README.md: no answer can be read from: " + line, !line.contains("//"));
            return line;
        }
        SHOWN.add(m.group(2));
        String want = m.group(3).matches("[A-Z]+") ? "TreePlanks." + m.group(3) : m.group(3);
        String told = m.group(1).replace("\\", "\\\\").replace("\"", "\\\"");
        return "ReadmeTest.due(\"" + told + "\", " + m.group(1) + ", " + want + ");";
    }

    private static void make(String program) throws Exception {
        Path room = Files.createTempDirectory("readme");
        try {
            Path source = Files.writeString(room.resolve("Shown.java"), program);
            JavaCompiler compiler = ToolProvider.getSystemJavaCompiler();
            int failed = compiler.run(null, System.out, System.out, "--release", "17", "-cp",
                System.getProperty("java.class.path"), "-d", room.toString(), source.toString());
            CHECK.holds("README.md: its Java does not compile", failed == 0);
            if (failed == 0) {
                run(room);
            }
        } finally {
            remove(room);
        }
    }

    private static void run(Path room) throws Exception {
        try (URLClassLoader loader = new URLClassLoader(new URL[] {room.toUri().toURL()})) {
            Method main = loader.loadClass("Shown").getMethod("main", String[].class);
            main.invoke(null, (Object) new String[0]);
        }
    }

    private static void remove(Path room) throws IOException {
        try (Stream<Path> all = Files.walk(room)) {
            List<Path> inside = all.sorted(Comparator.reverseOrder()).toList();
            for (Path p : inside) {
                Files.delete(p);
            }
        }
    }

    private static void everyCallIsShown() {
        for (Method m : TreePlanks.class.getDeclaredMethods()) {
            if (Modifier.isPublic(m.getModifiers())) {
                CHECK.holds("README.md shows no answer of " + m.getName(), SHOWN.contains(m.getName()));
            }
        }
    }

    private static void constants(String page) throws Exception {
        Set<String> told = new TreeSet<>();
        Matcher m = ROW.matcher(page);
        while (m.find()) {
            told.add(m.group(1));
            int number = TreePlanks.class.getField(m.group(1)).getInt(null);
            CHECK.due("README.md: " + m.group(1), number, Long.parseLong(m.group(2)));
        }
        for (Field f : TreePlanks.class.getFields()) {
            CHECK.holds("README.md does not tell " + f.getName(), told.contains(f.getName()));
        }
    }

    private static void testsAreNamed(String page) throws IOException {
        CHECK.holds("README.md does not say how all tests are run", page.contains("\n.ci/run\n"));
        try (Stream<Path> files = Files.list(Path.of("src/test/java"))) {
            for (Path p : files.toList()) {
                String name = p.getFileName().toString().replace(".java", "");
                boolean named = !name.endsWith("Test") || page.contains("`" + name + "`");
                CHECK.holds("README.md does not name " + name, named);
            }
        }
    }
}
