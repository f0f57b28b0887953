import java.io.IOException;
import java.lang.reflect.Constructor;
import java.lang.reflect.Field;
import java.lang.reflect.Method;
import java.lang.reflect.Modifier;
import java.nio.file.Files;
import java.nio.file.Path;
import java.util.Arrays;
import java.util.Set;
import java.util.TreeSet;
import java.util.regex.Matcher;
import java.util.regex.Pattern;
import java.util.stream.Collectors;

/** The class has the members that stand under "The public face" in the document, and shows no others. */
public final class FaceTest {
    private static final Pattern BLOCK = Pattern.compile("(?s)## The public face\\s+```java\\n(.*?)```");
    private static final Pattern METHOD = Pattern.compile("public (\\w+) (\\w+)\\((.*)\\);");
    private static final Pattern CONSTANT = Pattern.compile("public static final (\\w+) (\\w+) = (-?\\d+);");
    private static final String CONSTRUCTOR = "public FastPlane();";

    public static void main(String[] args) throws IOException, IllegalAccessException {
        Path root = Path.of(args.length > 0 ? args[0] : ".");
        Set<String> due = told(Files.readString(root.resolve("../shared/DOC.md")));
        Set<String> has = shown(FastPlane.class);
        Check check = new Check("FaceTest");
        check.due("members told", due.size(), 39);
        for (String member : due) {
            check.due("has " + member, has.contains(member), true);
        }
        for (String member : has) {
            check.due("shows " + member, due.contains(member), true);
        }
        int modifiers = FastPlane.class.getModifiers();
        check.due("public", Modifier.isPublic(modifiers), true);
        check.due("final", Modifier.isFinal(modifiers), true);
        check.due("no package", FastPlane.class.getPackageName().isEmpty(), true);
        check.due("nothing above it", FastPlane.class.getSuperclass() == Object.class, true);
        check.due("no interfaces", FastPlane.class.getInterfaces().length, 0);
        check.finish();
    }

    private static Set<String> told(String document) {
        Set<String> told = new TreeSet<>();
        Matcher block = BLOCK.matcher(document);
        if (!block.find()) {
            return told;
        }
        for (String line : block.group(1).split("\n")) {
            Matcher method = METHOD.matcher(line.trim());
            Matcher constant = CONSTANT.matcher(line.trim());
            if (method.matches()) {
                told.add(method.group(1) + " " + method.group(2) + "(" + method.group(3).replaceAll("(\\w+) \\w+", "$1") + ")");
            } else if (constant.matches()) {
                told.add(constant.group(1) + " " + constant.group(2) + " = " + constant.group(3));
            } else if (line.trim().equals(CONSTRUCTOR)) {
                told.add("FastPlane()");
            }
        }
        return told;
    }

    /** Whatever is not private; a static field with its value. */
    private static Set<String> shown(Class<?> kind) throws IllegalAccessException {
        Set<String> shown = new TreeSet<>();
        for (Method method : kind.getDeclaredMethods()) {
            if (!Modifier.isPrivate(method.getModifiers()) && !method.isSynthetic()) {
                String how = Modifier.isPublic(method.getModifiers()) && !Modifier.isStatic(method.getModifiers()) ? "" : "not so: ";
                shown.add(how + method.getReturnType().getSimpleName() + " " + method.getName() + types(method.getParameterTypes()));
            }
        }
        for (Constructor<?> constructor : kind.getDeclaredConstructors()) {
            shown.add((Modifier.isPublic(constructor.getModifiers()) ? "" : "not so: ") + kind.getSimpleName()
                + types(constructor.getParameterTypes()));
        }
        for (Field field : kind.getDeclaredFields()) {
            int modifiers = field.getModifiers();
            boolean constant = Modifier.isPublic(modifiers) && Modifier.isStatic(modifiers) && Modifier.isFinal(modifiers);
            if (!Modifier.isPrivate(modifiers) && !field.isSynthetic()) {
                shown.add(field.getType().getSimpleName() + " " + field.getName() + (constant ? " = " + field.get(null) : ""));
            }
        }
        return shown;
    }

    private static String types(Class<?>[] types) {
        return Arrays.stream(types).map(Class::getSimpleName).collect(Collectors.joining(", ", "(", ")"));
    }
}
