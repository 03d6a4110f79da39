import java.lang.reflect.Method;
import java.lang.reflect.Modifier;
import java.nio.file.Files;
import java.nio.file.Path;
import java.util.LinkedHashMap;
import java.util.List;
import java.util.Map;
import java.util.TreeSet;
import java.util.regex.Matcher;
import java.util.regex.Pattern;

/**
 * What README.md shows of the class's use is what the class answers: each line of its Java code is
 * run, the object made anew where the README makes one, and the row that a comment tells behind
 * "the row is" is the one that is spelt then.
 */
public final class ReadmeTest {
    private static final Pattern CODE = Pattern.compile("(?s)```java\n(.*?)```");
    private static final Pattern MADE = Pattern.compile("ZigzagPieces x = new ZigzagPieces\\(\\);");
    private static final Pattern CALL = Pattern.compile(
        "x\\.(\\w+)\\(([^)]*)\\); +// (-?\\d+|BAD|NO|NONE|FULL)(?:: (.*))?");
    private static final Pattern ROW = Pattern.compile("(?:row is|has:) ((?:[vwef]\\d+;)+)");
    private static final Map<String, Integer> REFUSALS =
        Map.of("BAD", -1, "NO", -2, "FULL", -3, "NONE", -4);

    private static final Map<String, Method> CALLS = new LinkedHashMap<>();
    private static final TreeSet<String> SHOWN = new TreeSet<>();
    private static final TreeSet<String> SHOWN_REFUSALS = new TreeSet<>();
    private static ZigzagPieces x;
    private static int rows = 0;
    private static int passed = 0;
    private static int failed = 0;

    public static void main(String[] args) throws Exception {
        for (Method method : ZigzagPieces.class.getDeclaredMethods()) {
            if (Modifier.isPublic(method.getModifiers())) {
                CALLS.put(method.getName(), method);
            }
        }
        Path root = Path.of(System.getProperty("project.root", "."));
        String readme = Files.readString(root.resolve("README.md"));
        Matcher code = CODE.matcher(readme);
        while (code.find()) {
            for (String line : code.group(1).split("\n")) {
                runLine(line.trim());
            }
        }
        holds("each call is shown: " + SHOWN, SHOWN.equals(new TreeSet<>(CALLS.keySet())));
        holds("each refusal is shown", SHOWN_REFUSALS.containsAll(List.of("BAD", "NO", "NONE")));
        holds("rows are told", rows > 0);
        holds("README tells how to run the tests", readme.contains(".ci/run"));
        testsAreNamed(root, readme);
        System.out.println("ReadmeTest: " + passed + " passed, " + failed + " failed");
        if (failed != 0 || passed == 0) {
            System.exit(1);
        }
    }

    private static void holds(String what, boolean so) {
        if (so) {
            passed++;
        } else {
            failed++;
            System.out.println("README: does not hold: " + what);
        }
    }

    private static void runLine(String line) throws Exception {
        if (line.isEmpty()) {
            return;
        }
        if (MADE.matcher(line).matches()) {
            x = new ZigzagPieces();
            return;
        }
        Matcher call = CALL.matcher(line);
        holds("a call with its answer: " + line, call.matches() && x != null
            && CALLS.containsKey(call.group(1)));
        if (!call.matches() || x == null || !CALLS.containsKey(call.group(1))) {
            return;
        }
        SHOWN.add(call.group(1));
        int got = (Integer) CALLS.get(call.group(1)).invoke(x, numbers(call.group(2)));
        holds(line + " (answered " + got + ")", got == answer(call.group(3)));
        Matcher row = ROW.matcher(call.group(4) == null ? "" : call.group(4));
        while (row.find()) {
            rows++;
            holds(line + " (spelt " + spelt() + ")", spelt().equals(row.group(1)));
        }
    }

    private static int answer(String text) {
        if (REFUSALS.containsKey(text)) {
            SHOWN_REFUSALS.add(text);
            return REFUSALS.get(text);
        }
        return Integer.parseInt(text);
    }

    private static Object[] numbers(String inside) {
        String[] parts = inside.isEmpty() ? new String[0] : inside.split(", ");
        Object[] numbers = new Object[parts.length];
        for (int i = 0; i < parts.length; i++) {
            boolean letter = parts[i].startsWith("'");
            numbers[i] = letter ? (int) parts[i].charAt(1) : Integer.parseInt(parts[i]);
        }
        return numbers;
    }

    private static String spelt() {
        StringBuilder all = new StringBuilder();
        for (int k = 0; x.spelt(k) >= 0; k++) {
            all.append((char) x.spelt(k));
        }
        return all.toString();
    }

    private static void testsAreNamed(Path root, String readme) throws Exception {
        try (var files = Files.list(root.resolve("src/test/java"))) {
            for (Path file : (Iterable<Path>) files::iterator) {
                String name = file.getFileName().toString().replace(".java", "");
                holds(name + " is named", readme.contains("`" + name + "`"));
            }
        }
    }
}
