import java.io.IOException;
import java.lang.reflect.Method;
import java.lang.reflect.Modifier;
import java.net.URL;
import java.net.URLClassLoader;
import java.nio.file.Files;
import java.nio.file.Path;
import java.util.Set;
import java.util.TreeSet;
import java.util.regex.Matcher;
import java.util.regex.Pattern;
import java.util.stream.Stream;
import javax.tools.ToolProvider;

/**
 * The calls that README.md shows: its java blocks, in their order, are compiled as one program in which
 * every call is held to the answer that stands behind it. Each method of the class has to be shown.
 */
public final class ReadmeTest {
    private static final String CALLS = "ReadmeCalls";
    private static final Pattern BLOCK = Pattern.compile("(?ms)^```java\\n(.*?)^```$");
    private static final Pattern CALL = Pattern.compile("(plane\\.(\\w+)\\(.*\\)); *// (-?\\d+|true|false)(:.*)?");

    private static int calls = 0;
    private static int wrong = 0;

    public static void main(String[] args) throws IOException, ReflectiveOperationException {
        Path root = Path.of(args.length > 0 ? args[0] : ".");
        Set<String> shown = new TreeSet<>();
        String program = program(Files.readString(root.resolve("README.md")), shown);
        for (Method method : FastPlane.class.getDeclaredMethods()) {
            if (Modifier.isPublic(method.getModifiers()) && !shown.contains(method.getName())) {
                complain("no call of " + method.getName() + " is shown");
            }
        }
        Path work = Files.createTempDirectory("readme");
        try {
            run(program, work);
        } finally {
            clear(work);
        }
        System.out.println("ReadmeTest: " + calls + " calls, " + wrong + " wrong");
        if (wrong > 0 || calls == 0) {
            System.exit(1);
        }
    }

    private static void complain(String what) {
        wrong++;
        System.out.println("ReadmeTest: " + what);
    }

    private static String program(String page, Set<String> shown) {
        StringBuilder members = new StringBuilder();
        StringBuilder statements = new StringBuilder();
        Matcher block = BLOCK.matcher(page);
        while (block.find()) {
            if (block.group(1).startsWith("static ")) {
                members.append(block.group(1));
            } else {
                block.group(1).lines().forEach(line -> statements.append(statement(line, shown)).append('\n'));
            }
        }
        return "public final class " + CALLS + " {\n"
            + "static int wrong = 0;\n"
            + "static void due(String call, Object got, Object want) {\n"
            + "if (!got.equals(want)) { wrong++; System.out.println(\"ReadmeTest: \" + call + \" answered \" + got"
            + " + \", README.md says \" + want); } }\n"
            + members
            + "public static int run() {\n" + statements + "return wrong;\n}\n}\n";
    }

    private static String statement(String line, Set<String> shown) {
        Matcher call = CALL.matcher(line);
        if (call.matches()) {
            calls++;
            shown.add(call.group(2));
            return "due(\"" + call.group(1) + "\", " + call.group(1) + ", " + call.group(3) + ");";
        }
        if (line.contains("plane.")) {
            complain("without an answer: " + line);
        }
        return line;
    }

    private static void run(String program, Path work) throws IOException, ReflectiveOperationException {
        Path source = work.resolve(CALLS + ".java");
        Files.writeString(source, program);
        int failed = ToolProvider.getSystemJavaCompiler().run(null, System.out, System.out, "-proc:none", "-cp",
            System.getProperty("java.class.path"), "-d", work.toString(), source.toString());
        if (failed != 0) {
            complain("the calls do not compile");
            return;
        }
        try (URLClassLoader loader = new URLClassLoader(new URL[] {work.toUri().toURL()})) {
            wrong += (int) loader.loadClass(CALLS).getMethod("run").invoke(null);
        }
    }

    private static void clear(Path work) throws IOException {
        try (Stream<Path> files = Files.list(work)) {
            for (Path file : files.toList()) {
                Files.delete(file);
            }
        }
        Files.delete(work);
    }
}
