import java.lang.management.ManagementFactory;
import java.lang.reflect.Constructor;
import java.lang.reflect.Field;
import java.lang.reflect.Method;
import java.lang.reflect.Modifier;
import java.nio.file.Files;
import java.nio.file.Path;
import java.util.List;
import java.util.TreeSet;
import java.util.regex.Matcher;
import java.util.regex.Pattern;

/** The document's face, no more and no less, and those rules of LANGUAGE.md a test can see. */
public final class FaceTest {
    private static final List<String> FACE = List.of("write(int)", "wipe()", "fault()", "lay()",
        "act(int,int,int)", "drop()", "exchange(int)", "backwards()", "clear()", "undo()",
        "spelt(int)", "told(int,int)", "graph(int,int)", "piece(int,int)", "root(int)",
        "kin(int,int)", "bar(int,int)", "lasting(int,int)", "longer(int)", "steadiest(int)",
        "keep()", "other()", "back()", "count(int)");
    private static int passed = 0;
    private static int failed = 0;

    public static void main(String[] args) throws Exception {
        constants();
        methods();
        fields();
        classesInside();
        source();
        headings();
        room();
        System.out.println("FaceTest: " + passed + " passed, " + failed + " failed");
        if (failed != 0) {
            System.exit(1);
        }
    }

    private static void holds(String what, boolean so) {
        if (so) {
            passed++;
        } else {
            failed++;
            System.out.println("does not hold: " + what);
        }
    }

    private static void constants() {
        holds("BAD", ZigzagPieces.BAD == -1);
        holds("NO", ZigzagPieces.NO == -2);
        holds("FULL", ZigzagPieces.FULL == -3);
        holds("NONE", ZigzagPieces.NONE == -4);
    }

    private static void methods() {
        TreeSet<String> found = new TreeSet<>();
        TreeSet<String> names = new TreeSet<>();
        for (String method : FACE) {
            names.add(method.substring(0, method.indexOf('(')));
        }
        for (Method method : ZigzagPieces.class.getDeclaredMethods()) {
            if (Modifier.isPrivate(method.getModifiers())) {
                holds("no private method " + method.getName(), !names.contains(method.getName()));
                continue;
            }
            String text = method.toGenericString();
            found.add(text.substring(text.lastIndexOf('.', text.indexOf('(')) + 1));
            holds(text + " is public and answers an int", Modifier.isPublic(method.getModifiers())
                && !Modifier.isStatic(method.getModifiers()) && method.getReturnType() == int.class);
        }
        holds("the methods of the document: " + found, found.equals(new TreeSet<>(FACE)));
        Constructor<?>[] made = ZigzagPieces.class.getDeclaredConstructors();
        holds("one public constructor", made.length == 1 && made[0].getParameterCount() == 0
            && Modifier.isPublic(made[0].getModifiers()));
        holds("final", Modifier.isFinal(ZigzagPieces.class.getModifiers()));
        holds("public", Modifier.isPublic(ZigzagPieces.class.getModifiers()));
    }

    private static void fields() {
        List<String> constants = List.of("BAD", "NO", "FULL", "NONE");
        for (Field field : ZigzagPieces.class.getDeclaredFields()) {
            int how = field.getModifiers();
            holds(field + " is private", constants.contains(field.getName())
                ? Modifier.isPublic(how) && Modifier.isFinal(how) && Modifier.isStatic(how)
                : Modifier.isPrivate(how));
            holds(field + " is no state of the class", !Modifier.isStatic(how)
                || Modifier.isFinal(how));
        }
    }

    private static void classesInside() {
        Class<?>[] inside = ZigzagPieces.class.getDeclaredClasses();
        holds("at most twelve classes", inside.length <= 11);
        for (Class<?> one : inside) {
            int how = one.getModifiers();
            holds(one + " is static", Modifier.isStatic(how));
            holds(one + " is not public", !Modifier.isPublic(how) && !Modifier.isProtected(how));
            holds(one + " is not too wide", isNarrow(one));
            for (Method method : one.getDeclaredMethods()) {
                holds(one + ": no private method " + method.getName(),
                    !Modifier.isPrivate(method.getModifiers())
                    || FACE.stream().noneMatch(name -> name.startsWith(method.getName() + "(")));
            }
        }
        holds("the class is not too wide", isNarrow(ZigzagPieces.class));
    }

    /** At most twenty fields beside constants, and seven parameters of a method. */
    private static boolean isNarrow(Class<?> one) {
        int fields = 0;
        for (Field field : one.getDeclaredFields()) {
            fields += Modifier.isStatic(field.getModifiers()) ? 0 : 1;
        }
        boolean narrow = fields <= 20;
        for (Method method : one.getDeclaredMethods()) {
            narrow &= method.getParameterCount() <= 7;
        }
        return narrow;
    }

    private static void source() throws Exception {
        Path root = Path.of(System.getProperty("project.root", "."));
        String all = Files.readString(root.resolve("src/main/java/ZigzagPieces.java"));
        holds("plain signs", all.chars().allMatch(c -> c < 127));
        String code = all.replaceAll("(?s)/\\*.*?\\*/", "").replaceAll("//[^\n]*", "");
        for (String word : List.of("throw", "throws", "try", "catch", "finally", "synchronized",
            "assert", "package", "System", "Random", "Thread", "Object", "equals", "hashCode",
            "toString", "var", "protected", "volatile", "transient", "native")) {
            holds("no " + word, !Pattern.compile("\\b" + word + "\\b").matcher(code).find());
        }
        holds("no lambda, no method reference", !code.contains("->") && !code.contains("::"));
        TreeSet<String> imports = new TreeSet<>();
        Matcher m = Pattern.compile("import ([^;]*);").matcher(code);
        while (m.find()) {
            imports.add(m.group(1));
        }
        holds("imports: " + imports, List.of("java.util.Arrays", "java.util.ArrayList",
            "java.util.List").containsAll(imports));
    }

    /** The document tells which heading stands ahead of which calls; the class has them so. */
    private static void headings() throws Exception {
        Path root = Path.of(System.getProperty("project.root", "."));
        String document = Files.readString(root.resolve("../shared/DOC.md"));
        StringBuilder due = new StringBuilder();
        Matcher told = Pattern.compile("Ahead of the calls (.*) the interface says: ---- (\\w+)\\.")
            .matcher(document);
        while (told.find()) {
            due.append("---- ").append(told.group(2)).append(' ');
            due.append(told.group(1).replaceAll("[`,]", "")).append(' ');
        }
        String all = Files.readString(root.resolve("src/main/java/ZigzagPieces.java"));
        StringBuilder found = new StringBuilder();
        Matcher said = Pattern.compile("// (---- \\w+)\n|    public int (\\w+)\\(").matcher(all);
        while (said.find()) {
            found.append(said.group(1) != null ? said.group(1) : said.group(2)).append(' ');
        }
        holds("headings and calls in their order: " + found, due.length() > 0
            && found.toString().equals(due.toString()));
    }

    /** Calls make next to nothing anew, so that a long run stays within its room. */
    private static void room() {
        com.sun.management.ThreadMXBean beans =
            (com.sun.management.ThreadMXBean) ManagementFactory.getThreadMXBean();
        callAll(new ZigzagPieces());
        long begin = beans.getCurrentThreadAllocatedBytes();
        ZigzagPieces x = new ZigzagPieces();
        long made = beans.getCurrentThreadAllocatedBytes();
        for (int i = 0; i < 20; i++) {
            callAll(x);
        }
        long end = beans.getCurrentThreadAllocatedBytes();
        holds("an object of " + (made - begin) + " bytes", made - begin < 20000);
        holds("calls that make " + (end - made) + " bytes", end - made < 20000);
    }

    private static void callAll(ZigzagPieces x) {
        int sum = x.write('v') + x.write('0') + x.write(';');
        sum += x.fault() + x.keep() + x.exchange(2) + x.steadiest(0) + x.steadiest(1) + x.other();
        sum += x.act(0, 5, 5) + x.act(2, 5, 0) + x.drop() + x.clear() + x.backwards() + x.undo();
        sum += x.spelt(9) + x.told(1, 0) + x.graph(5, 3) + x.piece(4, 1) + x.root(0) + x.kin(0, 1);
        sum += x.bar(0, 2) + x.lasting(0, 3) + x.longer(2) + x.back() + x.lay() + x.wipe();
        holds("calls are answered", sum != Integer.MIN_VALUE && x.count(0) >= 0);
    }
}
