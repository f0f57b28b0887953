import java.io.IOException;
import java.lang.reflect.Method;
import java.nio.file.Files;
import java.nio.file.Path;
import java.util.Map;
import java.util.TreeMap;

/**
 * Which promise has how many tests of boundary cases: none may be without. What the tests quote is looked
 * up in the document; what it does not say so, and what no test quotes, is only told.
 */
public final class LedgerTest {
    private static final int PROMISES = 38;

    public static void main(String[] args) throws IOException {
        Path root = Path.of(args.length > 0 ? args[0] : ".");
        Path document = root.resolve("../shared/DOC.md");
        String said = Files.exists(document) ? plain(Files.readString(document)) : "";
        boolean[] quoted = new boolean[said.length()];
        Map<Integer, Integer> tests = new TreeMap<>();
        for (Class<?> kind : Boundaries.CLASSES) {
            for (Method test : Boundaries.testsOf(kind)) {
                Says says = test.getAnnotation(Says.class);
                tests.merge(says.promise(), 1, Integer::sum);
                for (String words : says.words()) {
                    quote(said, quoted, plain(words), test);
                }
            }
        }
        if (args.length > 1) {
            tellUnquoted(said, quoted);
        }
        int wrong = 0;
        for (int promise = 1; promise <= PROMISES; promise++) {
            if (!tests.containsKey(promise)) {
                System.out.println("LedgerTest: promise " + promise + " has no test of a boundary case");
                wrong++;
            }
        }
        System.out.println("LedgerTest: tests by promise " + tests);
        if (wrong > 0) {
            System.exit(1);
        }
    }

    private static String plain(String text) {
        return text.replace("```text", " ").replace("```", " ").replaceAll("\\s+", " ").trim();
    }

    private static void quote(String said, boolean[] quoted, String words, Method test) {
        int at = said.indexOf(words);
        if (at < 0 && !said.isEmpty()) {
            System.out.println("LedgerTest: note: " + test.getName() + " quotes what the document does not say: " + words);
        }
        for (; at >= 0; at = said.indexOf(words, at + 1)) {
            for (int i = at; i < at + words.length(); i++) {
                quoted[i] = true;
            }
        }
    }

    private static void tellUnquoted(String said, boolean[] quoted) {
        int from = said.indexOf("## Terms");
        int to = said.indexOf("## Not promised");
        StringBuilder run = new StringBuilder();
        for (int i = from; i < to; i++) {
            if (!quoted[i]) {
                run.append(said.charAt(i));
            } else if (run.length() > 0) {
                System.out.println("unquoted: " + run);
                run.setLength(0);
            }
        }
        System.out.println("unquoted: " + run);
    }
}
