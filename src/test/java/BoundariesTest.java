import java.lang.reflect.Method;
import java.nio.file.Files;
import java.nio.file.Path;
import java.util.ArrayList;
import java.util.LinkedHashMap;
import java.util.List;
import java.util.Map;
import java.util.TreeSet;
import java.util.regex.Matcher;
import java.util.regex.Pattern;

/**
 * Each sentence of the document that names a boundary has a test of its own here: just inside,
 * just outside, the smallest and the largest int, empty, full, and the refused call with all that
 * stands unchanged behind it.
 *
 * <p>A run is told in words with blanks between them: {@code text:v0;} wipes the text and writes
 * the letters, {@code lay:v0;} also lays them, all else is a call, and with = behind it the answer
 * that is due. Sentences are quoted, and the quotes are looked up in the document itself.
 */
public final class BoundariesTest {
    private static final int MOST_CALLS = 512;
    private static final String FIRST = "v0;v1;v2;e01;v3;e12;f01;e23;w0;v0;e03;f23;e01;f12;w2;";

    /** 40 acts, behind which there is nothing. */
    private static final String FORTY = "v0;w0;".repeat(20);
    /** 40 acts, behind which there are the points 0 and 8, and no edge. */
    private static final String FORTY_SOME = "v8;" + "v0;w0;".repeat(19) + "v0;";
    private static final String THIRTY_NINE = "v0;w0;".repeat(19) + "v0;";
    private static final String ALL_POINTS = "v0;v1;v2;v3;v4;v5;v6;v7;v8;";

    private static final List<String> REFUSALS = List.of("BAD", "NO", "NONE", "FULL");

    private static final Map<String, Method> CALLS = new LinkedHashMap<>();
    private static final TreeSet<String> REFUSED = new TreeSet<>();
    private static final TreeSet<Integer> PROMISES = new TreeSet<>();
    private static String document = "";
    private static String sentence = "";
    private static int passed = 0;
    private static int failed = 0;

    public static void main(String[] args) throws Exception {
        for (Method method : ZigzagPieces.class.getDeclaredMethods()) {
            CALLS.put(method.getName(), method);
        }
        Path root = Path.of(System.getProperty("project.root", "."));
        document = plain(Files.readString(root.resolve("../shared/DOC.md")));
        whatItIs();
        acts();
        row();
        text();
        pieces();
        joining();
        bars();
        exchanges();
        changes();
        refusals();
        promises1To5();
        promises6To11();
        promises12To17();
        promises18To21();
        promises22To25();
        smallestAndLargest();
        nothingLeftOut();
        System.out.println("BoundariesTest: " + passed + " passed, " + failed + " failed");
        if (failed != 0 || passed == 0) {
            System.exit(1);
        }
    }

    // ---- how a test is told

    private static String plain(String text) {
        return text.replaceAll("\\s+", " ");
    }

    private static void holds(String what, boolean so) {
        if (so) {
            passed++;
        } else {
            failed++;
            System.out.println("\"" + sentence + "\": " + what);
        }
    }

    private static void due(String what, Object got, Object want) {
        holds(what + " answered " + got + ", due is " + want, got.equals(want));
    }

    /** The sentence that the checks behind it are about. */
    private static void sentence(String quote) {
        sentence = quote;
        holds("is in the document", document.contains(plain(quote)));
    }

    /** A sentence of a promise. */
    private static void promise(int number, String quote) {
        sentence = quote;
        PROMISES.add(number);
        holds("is in promise " + number, promiseText(number).contains(plain(quote)));
    }

    private static String promiseText(int number) {
        int begin = document.indexOf("## Promise " + number + ":");
        int end = document.indexOf("## ", begin + 3);
        return begin < 0 || end < 0 ? "" : document.substring(begin, end);
    }

    /** An object in use; it counts its calls, as the document promises nothing behind the 512th. */
    private static final class Use {
        private final ZigzagPieces x = new ZigzagPieces();
        private int calls;

        int call(String call) {
            calls++;
            int open = call.indexOf('(');
            Method method = CALLS.get(call.substring(0, open));
            String inside = call.substring(open + 1, call.length() - 1);
            String[] parts = inside.isEmpty() ? new String[0] : inside.split(",");
            Object[] numbers = new Object[parts.length];
            for (int i = 0; i < parts.length; i++) {
                numbers[i] = number(parts[i]);
            }
            try {
                return (Integer) method.invoke(x, numbers);
            } catch (ReflectiveOperationException e) {
                throw new IllegalStateException(call, e);
            }
        }

        void type(String text) {
            calls += 1 + text.length();
            x.wipe();
            for (int i = 0; i < text.length(); i++) {
                x.write(text.charAt(i));
            }
        }

        void word(String word, String run) {
            if (word.startsWith("text:")) {
                type(word.substring(5));
            } else if (word.startsWith("lay:")) {
                type(word.substring(4));
                holds("lay in " + run, call("lay()") >= 0);
            } else if (word.contains("=")) {
                int at = word.indexOf('=');
                due(word.substring(0, at) + " in " + run, call(word.substring(0, at)),
                    number(word.substring(at + 1)));
            } else {
                call(word);
            }
        }

        void run(String run) {
            for (String word : run.trim().split(" +")) {
                if (!word.isEmpty()) {
                    word(word, run);
                }
            }
        }

        String row() {
            StringBuilder all = new StringBuilder();
            for (int k = 1; k <= call("count(0)"); k++) {
                int b = call("told(" + k + ",2)");
                all.append("vwef".charAt(call("told(" + k + ",0)")));
                all.append(call("told(" + k + ",1)")).append(b < 0 ? "" : b).append(';');
            }
            return all.toString();
        }

        String bars() {
            StringBuilder all = new StringBuilder();
            int most = call("bar(-1,0)");
            for (int i = 0; i < most; i++) {
                all.append(call("bar(" + i + ",0)")).append('-');
                all.append(call("bar(" + i + ",1)")).append(' ');
            }
            return all.toString().trim();
        }

        String counts() {
            StringBuilder all = new StringBuilder();
            for (int what = 0; what <= 6; what++) {
                all.append(call("count(" + what + ")")).append(' ');
            }
            return all.toString().trim();
        }

        /** All that can be seen of an object without changing it. */
        String look() {
            String seen = row() + " | " + counts() + " | " + bars() + " | " + call("fault()");
            for (int point = 0; point <= 8; point++) {
                seen += " " + call("root(" + point + ")");
            }
            holds("no more than 512 calls, but " + calls, calls <= MOST_CALLS);
            return seen;
        }
    }

    private static int number(String text) {
        switch (text) {
            case "BAD":
                return -1;
            case "NO":
                return -2;
            case "FULL":
                return -3;
            case "NONE":
                return -4;
            case "MIN":
                return Integer.MIN_VALUE;
            case "MAX":
                return Integer.MAX_VALUE;
            default:
                return Integer.parseInt(text);
        }
    }

    private static Use run(String run) {
        Use use = new Use();
        use.run(run);
        holds("no more than 512 calls in " + run, use.calls <= MOST_CALLS);
        return use;
    }

    private static void row(String run, String row) {
        due("row behind " + run, run(run).row(), row);
    }

    private static void bars(String run, String bars) {
        due("bars behind " + run, run(run).bars(), bars);
    }

    /** A call that is refused behind a run: its answer, and that nothing changes by it. */
    private static void refused(String run, String call) {
        int at = call.indexOf('=');
        REFUSED.add(call.substring(0, call.indexOf('(')) + " " + call.substring(at + 1));
        run(run + " " + call);
        unchanged(run, call.substring(0, at));
    }

    private static void unchanged(String run, String call) {
        List<String> without = allSeen(run);
        List<String> with = allSeen(run + " " + call);
        due("all that is seen with and without " + call + " behind " + run, with, without);
    }

    /** What is seen now, behind each undo, each back, behind one letter more and behind lay. */
    private static List<String> allSeen(String run) {
        List<String> seen = new ArrayList<>();
        seen.add(run(run).look());
        for (int undone = 1; undone <= 6; undone++) {
            seen.add(seenBehind(run, "undo()", undone));
        }
        for (int back = 1; back <= 2; back++) {
            seen.add(seenBehind(run, "back()", back));
        }
        seen.add(seenBehind(run, "lay()", 1));
        seen.add(seenBehind(run + " write(59)", "lay()", 1));
        return seen;
    }

    private static String seenBehind(String run, String call, int times) {
        Use use = run(run);
        StringBuilder answers = new StringBuilder();
        int last = 0;
        for (int i = 0; i < times; i++) {
            last = use.call(call);
            answers.append(last).append(' ');
        }
        return answers + (last < 0 ? "" : use.look());
    }

    // ---- What it is

    private static void whatItIs() {
        sentence("An object is used for at most 512 calls after it has been made");
        run("count(0)=15 ".repeat(510) + "act(0,8,0)=16 bar(8,1)=99");
        run("act(0,8,0)=16 drop()=15 ".repeat(256));
        run("act(0,8,0)=16 drop()=15 ".repeat(255) + "act(0,8,0)=16 count(4)=6");
        run("lay:" + FORTY_SOME + " " + "steadiest(1)=39 ".repeat(390));
        run("keep()=1 back()=0 ".repeat(256));
        run("exchange(1)=0 ".repeat(511) + "told(1,1)=1");
    }

    // ---- Terms: acts

    private static void acts() {
        sentence("POINTS are 0 to 8.");
        run("lay: act(0,0,0)=1 act(0,8,8)=2 act(2,0,8)=3 piece(3,8)=0 root(8)=1 kin(0,8)=NO");
        run("lay:" + ALL_POINTS + " count(1)=9 count(3)=9 graph(9,0)=511 root(0)=1 root(8)=9");
        run("lay:v0;v8;e08; graph(3,0)=257");
        for (String point : new String[] {"-1", "9", "MIN", "MAX"}) {
            refused("lay:", "act(0," + point + ",0)=BAD");
            refused("lay:" + ALL_POINTS, "act(1," + point + ",0)=BAD");
            refused("lay:" + ALL_POINTS, "act(2,0," + point + ")=BAD");
            refused("lay:" + ALL_POINTS, "act(2," + point + ",0)=BAD");
            refused("lay:" + ALL_POINTS, "piece(9," + point + ")=BAD");
            refused("lay:" + ALL_POINTS, "root(" + point + ")=BAD");
            refused("lay:" + ALL_POINTS, "kin(0," + point + ")=BAD");
            refused("lay:" + ALL_POINTS, "kin(" + point + ",0)=BAD");
        }

        sentence("of KIND 0 a POINT comes that is not there");
        run("lay: act(0,4,4)=1 count(1)=1");
        run("lay:v4;w4; act(0,4,4)=3");
        refused("lay:v4;", "act(0,4,4)=NO");
        refused("lay:v4;v5;e45;", "act(0,4,0)=NO");

        sentence("1 a POINT goes that is there and has no EDGE");
        run("lay:v4; act(1,4,0)=2 count(1)=0");
        run("lay:v4;v5;e45;f45; act(1,4,0)=5 act(1,5,0)=6");
        run("lay:v3;v4;v5;e34;e45;f34; act(1,3,0)=7");
        refused("lay:", "act(1,4,0)=NO");
        refused("lay:v4;w4;", "act(1,4,0)=NO");
        refused("lay:v4;v5;e45;", "act(1,4,0)=NO");
        refused("lay:v4;v5;e45;", "act(1,5,0)=NO");
        refused("lay:v3;v4;v5;e34;e45;f34;", "act(1,4,0)=NO");

        sentence("2 an EDGE comes between two unlike POINTS that are there, between which there is none");
        run("lay:v4;v5; act(2,4,5)=3 count(2)=1");
        run("lay:v4;v5;e45;f45; act(2,4,5)=5");
        refused("lay:v4;v5;", "act(2,4,4)=BAD");
        refused("lay:v4;", "act(2,4,5)=NO");
        refused("lay:v5;", "act(2,4,5)=NO");
        refused("lay:", "act(2,4,5)=NO");
        refused("lay:v4;v5;e45;", "act(2,4,5)=NO");
        refused("lay:v4;v5;w5;", "act(2,4,5)=NO");

        sentence("3 an EDGE goes that is there.");
        run("lay:v4;v5;e45; act(3,4,5)=4 count(2)=0");
        refused("lay:v4;v5;", "act(3,4,5)=NO");
        refused("lay:v4;v5;e45;f45;", "act(3,4,5)=NO");
        refused("lay:v4;v5;v6;e45;", "act(3,5,6)=NO");
        refused("lay:", "act(3,4,5)=NO");

        sentence("(a, b and b, a are one EDGE.)");
        refused("lay:v4;v5;e45;", "act(2,5,4)=NO");
        run("lay:v4;v5; act(2,5,4)=3 act(3,4,5)=4 told(3,1)=4 told(3,2)=5");
        run("lay:v4;v5;e45; act(3,5,4)=4 told(4,1)=4 told(4,2)=5 count(2)=0");
        run("text:v4;v5;e45;f54; fault()=NONE text:v4;v5;e45;e54; fault()=10");
    }

    private static void row() {
        sentence("THE ROW is ACTS 1, 2, .. one behind the other, 40 at most");
        run("text:" + FORTY + " lay()=40 told(40,0)=1 told(40,1)=0 told(41,0)=BAD");
        run("lay:" + THIRTY_NINE + " act(0,1,0)=40 count(0)=40 told(40,1)=1");
        refused("lay:" + FORTY, "act(0,0,0)=FULL");
        refused("text:" + FORTY + "v0;", "lay()=NO");
        run("lay: told(0,0)=BAD told(1,0)=BAD");

        sentence("each of which can be done as all stands behind those ahead of it, from nothing on");
        run("text:w0; fault()=0 text:f01; fault()=0 text:e01; fault()=0 text:v0; fault()=NONE");
        refused("lay:v0;w0;", "exchange(1)=NO");
        run("lay:v0;v1;w0; exchange(2)=2 told(2,0)=1 told(3,1)=1");

        sentence("GRAPH k is what there is behind ACT k (GRAPH 0: nothing)");
        run("graph(0,0)=0 graph(0,1)=0 graph(0,2)=0 graph(0,3)=0 graph(1,0)=1 graph(1,2)=1");
        run("lay: graph(0,0)=0 graph(0,1)=0 graph(0,2)=0 graph(0,3)=0 graph(1,0)=BAD");
        run("piece(0,0)=NONE piece(1,0)=0 lasting(0,0)=0 lasting(1,1)=1");

        sentence("n being how many ACTS there are, GRAPH n is what is now.");
        run("graph(15,0)=11 graph(15,1)=2 graph(15,2)=1 graph(15,3)=0 count(1)=3 count(2)=2"
            + " count(3)=1 graph(14,0)=15 graph(14,2)=2");
        refused("", "graph(16,0)=BAD");
        refused("", "graph(-1,0)=BAD");
        run("lay:" + FORTY_SOME + " graph(40,0)=257 graph(39,0)=256 graph(41,0)=BAD");
    }

    // ---- Terms: the text

    private static void text() {
        sentence("THE TEXT is letters (200 at most)");
        String almost = "text:" + "v".repeat(199);
        run(almost + " write(118)=200 write(118)=FULL count(5)=200 wipe()=200 write(118)=1");
        refused(almost + " write(118)", "write(118)=FULL");

        sentence("ITEMS one behind the other, a ; behind each");
        faults("v0;=NONE v0=0 v=0 ;=0 v0;v1=3 v0;v=3 v0;;=3 v0v1;=0 v0:=0 v0,v1;=0 v0;v1;e01=6");
        faults("v0;v1;e01;f01=10 v0;w0=3 v0;v1;e01;f01;=NONE v00;=0 v0;v1;e0;=6 v0;v1;e012;=6");
        run("write(32) fault()=0");
        run("text:v0; write(32) fault()=3 write(118) fault()=3");

        sentence("vA (POINT A comes), wA (it goes), eAB (the EDGE of A and B comes), fAB (it goes), "
            + "A and B a figure 0 to 8 each.");
        faults("v0;=NONE v8;=NONE v9;=0 v/;=0 v:;=0 v-;=0 va;=0 V0;=0 u0;=0 x0;=0 g01;=0 d01;=0");
        faults("v0;w0;=NONE v8;w8;=NONE v0;w9;=3 v0;w/;=3 v0;W0;=3 v0;w1;=3");
        faults("v0;v8;e08;=NONE v0;v8;e80;=NONE v0;v8;e09;=6 v0;v8;e90;=6 v0;v8;e/8;=6");
        faults("v0;v8;e08;f08;=NONE v0;v8;e08;f80;=NONE v0;v8;e08;f09;=10 v0;v8;e08;f9;=10");
        faults("v0;v8;e8/;=6 v0;v8;e08;f/8;=10 v0;v8;e08;f8/;=10 v0;v8;E08;=6 v0;v8;e08;F08;=10");

        sentence("FAULT: the place of the first letter of the first ITEM that is not so");
        faults("x=0 v0;x=3 v0;v9;=3 v0;v1;e0x;=6 v0;v1;e01x=6 v0;x;y;=3 v0;v1;v1;x=6");

        sentence("or whose ACT can not be done behind those ahead of it");
        faults("v0;v0;=3 v0;v1;e01;w0;=10 v0;v1;f01;=6 v0;e01;=3 v1;e01;=3 v0;e00;=3 v0;f00;=3");
        faults("v0;w0;w0;=6 v0;v1;e01;e01;=10 v0;v1;e01;f01;w0;=NONE v0;v1;e01;f01;f01;=14");

        sentence("or that is the 41st.");
        faults(FORTY + "=NONE " + FORTY + "v0;=120 " + FORTY + "x=120 " + FORTY + "v=120");
        faults(THIRTY_NINE + "w0;=NONE");
        faults(THIRTY_NINE + "v0;=117 " + THIRTY_NINE + "x=117");
        String edges = "v0;v1;" + "e01;f01;".repeat(19);
        faults(edges + "=NONE");
        faults(edges + "e01;=158 " + edges + "w0;=158");
        run("text:" + "v0;w0;".repeat(33) + "v0 count(5)=200 fault()=120");

        sentence("LAID is a TEXT without FAULT (an empty one, too; at first "
            + FIRST + "): its ACTS are THE ROW.");
        row("", FIRST);
        row("wipe() lay()=0", "");
        row("lay()=0", "");
        row("text:v3; lay()=1", "v3;");
        row("text:" + FORTY + " lay()=40", FORTY);
        refused("text:v3", "lay()=NO");
        refused("text:v3;x", "lay()=NO");
    }

    private static void faults(String texts) {
        for (String one : texts.split(" ")) {
            int at = one.indexOf('=');
            String text = one.substring(0, at);
            String due = one.substring(at + 1);
            run("text:" + text + " fault()=" + due + " count(5)=" + text.length() + " count(0)=15");
            if (!due.equals("NONE")) {
                run("text:" + text + " lay()=NO count(0)=15");
            }
        }
    }

    // ---- Terms: pieces

    private static void pieces() {
        sentence("A POINT comes: it is a PIECE, its ROOT is k, it is KIN with nobody.");
        run("lay:v0; root(0)=1 piece(1,0)=0 count(3)=1");
        run("lay:v0;v1; root(1)=2 kin(0,1)=NONE piece(2,1)=1");
        run("lay:" + THIRTY_NINE + " act(0,8,8)=40 root(8)=40 kin(0,8)=NONE");
        run("lay:v0;v1;e01;f01;w0;v0; root(0)=6 kin(0,1)=NONE root(1)=1");
        run("lay:v0;v1;e01;f01;w1;v1; root(1)=6 kin(0,1)=NONE root(0)=1");
        // what was kin in another row is not in this one
        run("lay:v0;v1;e01;f01; kin(0,1)=4 lay:v0;v1; kin(0,1)=NONE");
        run("lay:v0;v1;e01;f01; kin(0,1)=4 drop() drop() kin(0,1)=NONE");

        sentence("An EDGE goes, and a PIECE falls into two by it: both have its ROOT, are KIN with "
            + "others as it was, and with one another since k.");
        run("lay:v0;v1;e01;f01; root(0)=1 root(1)=1 kin(0,1)=4 kin(1,0)=4 count(3)=2");
        run("lay:v0;v1;v2;e01;e12;f01;f12; kin(0,1)=6 kin(0,2)=6 kin(1,2)=7 root(2)=1 count(3)=3");
        run("lay:v0;v1;v2;e01;e12;e02;f01; kin(0,1)=NO count(3)=1");
        run("lay:v0;v1;v2;e01;e12;e02;f01;f12; kin(0,1)=8 kin(1,2)=8 kin(0,2)=NO count(3)=2");
        run("lay:v0;v1;" + "e01;f01;".repeat(19) + " kin(0,1)=40 root(1)=1");

        sentence("A POINT goes: a BAR ends, that begins at the greatest number since which its PIECE "
            + "is KIN with any; at its ROOT, if it is KIN with nobody.");
        bars("lay:v5;w5;", "1-2");
        bars("lay:v0;v1;w0;", "1-3 2-99");
        bars("lay:v0;v1;w1;", "1-99 2-3");
        bars("lay:v0;v1;e01;f01;w0;", "1-99 2-3 4-5");
        bars("lay:v0;v1;e01;f01;w1;", "1-99 2-3 4-5");
        bars("lay:v0;v1;e01;f01;w0;w1;", "1-6 2-3 4-5");
        bars("lay:v0;v1;v2;e01;e12;f01;f12;w1;", "1-99 2-4 3-5 6-99 7-8");
        bars("lay:v0;v1;v2;e01;e12;f01;f12;w0;", "1-99 2-4 3-5 6-8 7-99");
        bars("lay:" + FORTY + " undo()=NO bar(19,0)=39", fortyBars());

        sentence("(All other ACTS change nothing of that: the EDGE is of a LOOP.)");
        bars("lay:v0;v1;v2;e01;e12;e02; graph(6,3)=1", "1-99 2-4 3-5");
        bars("lay:v0;v1;v2;e01;e12;e02;f12; graph(7,3)=0 root(1)=1", "1-99 2-4 3-5");
        bars("lay:v0;v1;v2;v3;e01;e12;e23;f23;e02;f12; kin(0,3)=8 kin(1,3)=8 kin(2,3)=8",
            "1-99 2-5 3-6 4-7 8-99");
    }

    private static String fortyBars() {
        StringBuilder all = new StringBuilder();
        for (int begin = 1; begin < 40; begin += 2) {
            all.append(begin).append('-').append(begin + 1).append(' ');
        }
        return all.toString().trim();
    }

    private static void joining() {
        sentence("If they are KIN since c, a BAR ends that begins at c; N has their ROOT");
        bars("lay:v0;v1;e01;f01;e01; root(0)=1 root(1)=1 kin(0,1)=NO", "1-99 2-3 4-5");

        sentence("it is KIN with each other PIECE since the greater of both numbers");
        String three = "lay:v0;v1;v2;e01;e12;f01;f12;";
        bars(three + "e01; kin(0,2)=7 kin(1,2)=7 kin(0,1)=NO", "1-99 2-4 3-5 6-8 7-99");
        bars(three + "e02; kin(0,1)=7 kin(2,1)=7 kin(0,2)=NO", "1-99 2-4 3-5 6-8 7-99");
        bars(three + "e12; kin(0,1)=6 kin(0,2)=6 kin(1,2)=NO", "1-99 2-4 3-5 6-99 7-8");
        run(three + "v3;e12; kin(0,3)=NONE kin(1,3)=NONE kin(0,1)=6");

        sentence("each PIECE X that is KIN with P since more than c and each Y that is KIN with Q "
            + "since more than c are KIN since the lesser of these two numbers.");
        String four = "lay:v0;v1;v2;v3;e01;e12;e23;";
        run(four + "f12;f01;f23; kin(1,3)=8 kin(0,3)=8 kin(0,1)=9 kin(2,3)=10 kin(0,2)=8");
        run(four + "f12;f01;f23;e02; kin(1,3)=9 kin(0,1)=9 kin(2,1)=9 kin(0,3)=10 kin(2,3)=10");
        run(four + "f12;f01;f23;e13; kin(0,2)=9 kin(1,0)=9 kin(3,0)=9 kin(1,2)=10 kin(3,2)=10");
        run("lay:v0;v1;v2;v3;e13;e02;e23;f23;f13;f02;e12; kin(0,3)=9 kin(1,3)=9 kin(1,0)=10");
        // since c is not since more than c: 2 and 3 stay as they were
        run(four + "f01;f12;f23; kin(0,2)=8 kin(0,3)=8 kin(1,2)=9 kin(2,3)=10");
        run(four + "f01;f12;f23;e01; kin(2,3)=10 kin(0,2)=9 kin(0,3)=9 kin(1,3)=9");

        sentence("If they are not KIN, a BAR ends that begins at the greater of their ROOTS; N and all "
            + "PIECES that are KIN with P or with Q have the lesser one as their ROOT");
        bars("lay:v0;v1;e01; root(0)=1 root(1)=1", "1-99 2-3");
        bars("lay:v1;v0;e01; root(0)=1 root(1)=1", "1-99 2-3");
        String two = "lay:v0;v1;e01;f01;v2;v3;e23;f23;";
        bars(two + "e02; root(0)=1 root(1)=1 root(2)=1 root(3)=1", "1-99 2-3 4-99 5-9 6-7 8-99");
        bars("lay:v2;v3;e23;f23;v0;v1;e01;f01;e02; root(0)=1 root(1)=1 root(2)=1 root(3)=1",
            "1-99 2-3 4-99 5-9 6-7 8-99");
        run(two + "v4;e24; root(0)=1 root(2)=5 root(3)=5 root(4)=5");

        sentence("N is KIN with these as P or Q was; each X that is KIN with P and each Y that is KIN "
            + "with Q are KIN since the lesser of the number of X with P and that of Y with Q.");
        run(two + " kin(1,3)=NONE kin(0,3)=NONE kin(0,2)=NONE");
        run(two + "e02; kin(0,1)=4 kin(2,1)=4 kin(0,3)=8 kin(2,3)=8 kin(1,3)=4 kin(3,1)=4");
        run(two + "v4;e02; kin(0,4)=NONE kin(1,4)=NONE");
    }

    // ---- Terms: bars

    private static void bars() {
        sentence("OPEN are BARS that would end, if in GRAPH n all PIECES went one behind the other, "
            + "that with the lowest POINT first; their END is told as 99.");
        run("lay: bar(-2,0)=0 bar(-1,0)=0");
        run("lay:" + FORTY + " bar(-2,0)=0 bar(-3,0)=20");
        run("lay:" + ALL_POINTS + " bar(-2,0)=9 bar(-3,0)=0 bar(0,1)=99 bar(8,1)=99 bar(8,0)=9");
        bars("lay:v0;v1;v2;e01;e12;f01;f12;", "1-99 2-4 3-5 6-99 7-99");
        run("lay:" + THIRTY_NINE + " bar(19,0)=39 bar(19,1)=99 act(1,0,0)=40 bar(19,1)=40");

        sentence("BARS are numbered 0, 1, .. by BEGIN, then by END.");
        bars("lay:v0;v1;v2;w2;w1;w0;", "1-6 2-5 3-4");
        bars("lay:v0;v1;v2;w0;w1;w2;", "1-4 2-5 3-6");
        bars("lay:v0;v1;w1;", "1-99 2-3");

        sentence("A BAR LASTS in GRAPHS from BEGIN to END less 1 (an OPEN one to n).");
        run("lay:v0;w0; bar(0,2)=1 lasting(0,0)=0 lasting(1,1)=1 lasting(2,2)=0 lasting(1,2)=0");
        run("lay:v0; bar(0,2)=1 lasting(0,1)=0 lasting(1,1)=1 lasting(1,2)=BAD");
        run("lay:v0;v1;w1; bar(0,2)=3 bar(1,2)=1 lasting(1,3)=1 lasting(2,2)=2 lasting(2,3)=1");
        run("lay:" + FORTY_SOME + " bar(0,2)=40 bar(20,2)=1 lasting(1,40)=1 lasting(40,40)=2");

        sentence("LOOPS of a GRAPH: EDGES less POINTS and PIECES (as many more) together.");
        run("lay:v0;v1;e01; graph(3,3)=0 graph(0,3)=0");
        run("lay:v0;v1;v2;e01;e12;e02; graph(5,3)=0 graph(6,3)=1");
        run("lay:" + mostEdges() + " count(0)=40 count(2)=31 graph(40,1)=31 graph(40,3)=23"
            + " count(3)=1 bar(-1,0)=9 graph(40,2)=1");
    }

    /** All points and 31 edges: so many as come in 40 acts. */
    private static String mostEdges() {
        StringBuilder all = new StringBuilder(ALL_POINTS);
        int left = 31;
        for (int a = 0; a <= 8; a++) {
            for (int b = a + 1; b <= 8 && left > 0; b++) {
                all.append('e').append(a).append(b).append(';');
                left--;
            }
        }
        return all.toString();
    }

    // ---- Terms: acts exchanged

    private static void exchanges() {
        sentence("EXCHANGED are ACTS k and k and 1 (k 1 to n less 1): they change their places, if THE "
            + "ROW can be done so.");
        String full = "lay:v8;" + "v0;w0;".repeat(19) + "v1;";
        row(full + " exchange(1)=2", "v0;v8;w0;" + "v0;w0;".repeat(18) + "v1;");
        row(full + " exchange(39)=2", "v8;" + "v0;w0;".repeat(18) + "v0;v1;w0;");
        for (String k : new String[] {"0", "40", "41", "-1", "MIN", "MAX"}) {
            refused(full, "exchange(" + k + ")=BAD");
        }
        refused(full, "exchange(2)=NO");
        refused(full, "exchange(38)=NO");
        row("lay:v0;v1; exchange(1)=0", "v1;v0;");
        refused("lay:v0;v1;", "exchange(2)=BAD");
        refused("lay:v0;", "exchange(1)=BAD");
        refused("lay:", "exchange(1)=BAD");
        refused("lay:", "exchange(0)=BAD");
        refused("lay:v0;v1;e01;f01;w0;", "exchange(4)=NO");
        // what comes later can be in the way, too
        refused("lay:v0;v1;e01;", "exchange(2)=NO");
        row("lay:v0;v1;v2;e01; exchange(2)=2", "v0;v2;v1;e01;");

        sentence("BACKWARDS: if GRAPH n is nothing, THE ROW is its ACTS from the last one to the first, "
            + "each the other way (what came goes, what went comes).");
        row("lay: backwards()=0", "");
        row("lay:v0;v1;w0;w1; backwards()=4", "v1;v0;w1;w0;");
        row("lay:v0;v1;e01;f01;w0;w1; backwards()=6", "v1;v0;e01;f01;w1;w0;");
        row("lay:v0;" + "v1;w1;".repeat(19) + "w0; backwards()=40",
            "v0;" + "v1;w1;".repeat(19) + "w0;");
        refused("lay:v8;", "backwards()=NO");
        refused("lay:v0;v1;e01;", "backwards()=NO");
        refused("lay:" + FORTY_SOME, "backwards()=NO");

        sentence("CLEARED: behind THE ROW come ACTS by which all EDGES go (the one of the lower POINT "
            + "first, of several that of the lower other one), then all POINTS, the lowest first.");
        row("lay:v8;v4;v0;e84;e80;e40; clear()=6",
            "v8;v4;v0;e48;e08;e04;f04;f08;f48;w0;w4;w8;");
        row("lay:v1;v2;v0;v3;e23;e31;e01; clear()=7",
            "v1;v2;v0;v3;e23;e13;e01;f01;f13;f23;w0;w1;w2;w3;");
        row("lay:v8; clear()=1", "v8;w8;");
        row("lay:" + ALL_POINTS + " clear()=9",
            ALL_POINTS + ALL_POINTS.replace('v', 'w'));

        sentence("OTHER BARS of two ROWS: how many BARS of the first there are more than can be paired "
            + "each with one of the second of like BEGIN and END.");
        run("lay:v0;v1;e01; keep() other()=0 drop() other()=1 drop() other()=0 drop() other()=0");
        run("lay: keep() act(0,0,0) other()=1 act(0,1,0) other()=2 act(2,0,1) other()=2");
        run("lay:v0; keep() act(0,1,0) act(1,1,0) other()=1");
        run("lay:v0;v1;v2;e01;e12; exchange(4)=2 exchange(4)=2 exchange(1)=0");

        sentence("STEADIEST EXCHANGE: of all k by which ACTS can be EXCHANGED that by which the longest "
            + "BAR (END less BEGIN, an OPEN one n and 1 less BEGIN) is longest, of several the lowest k.");
        run("lay: steadiest(0)=NONE steadiest(1)=NONE");
        run("lay:v0; steadiest(0)=NONE steadiest(1)=NONE");
        run("lay:v0;v1; steadiest(0)=1 steadiest(1)=2");
        run("lay:v0;v1;v2; steadiest(0)=1 steadiest(1)=3");
        run("lay:v0;w0;v1;w1;v2;v3; steadiest(0)=4 steadiest(1)=3");
        run("lay:v0;w0;v1;v2; steadiest(0)=2 steadiest(1)=3");
        run("lay:" + FORTY + " steadiest(0)=NONE steadiest(1)=NONE");
        run("lay:" + "v0;w0;".repeat(19) + "v0;v1; steadiest(0)=39 steadiest(1)=2");
        run("lay:v8;v7;" + "v0;w0;".repeat(19) + " steadiest(0)=1 steadiest(1)=40");
    }

    // ---- Terms: changes

    private static void changes() {
        sentence("A change: an ACT more, the last one less, EXCHANGED, BACKWARDS, CLEARED.");
        run("lay: count(4)=0 act(0,0,0)=1 count(4)=1 act(0,1,0)=2 count(4)=2 exchange(1)=0"
            + " count(4)=3 drop()=1 count(4)=4 clear()=1 count(4)=5 backwards()=2 count(4)=6");
        run("lay:v0; write(118) wipe() keep() fault() count(4)=0 drop() undo() count(4)=0");
        run("lay:v0; drop() keep() undo() keep() count(4)=0 back() count(4)=0");

        sentence("UNDONE is the latest change (the last 6 can be, such by which nothing becomes "
            + "another, too; behind LAID none can be): THE ROW is as ahead of it.");
        String five = "lay: act(0,0,0) act(0,1,0) act(0,2,0) act(0,3,0) act(0,4,0)";
        row(five + " count(4)=5 undo()=4 undo()=3 undo()=2 undo()=1 undo()=0 undo()=NO", "");
        String six = five + " act(0,5,0)";
        row(six + " count(4)=6 undo()=5 undo()=4 undo()=3 undo()=2 undo()=1 undo()=0 undo()=NO", "");
        String seven = six + " act(0,6,0)";
        row(seven + " count(4)=6 undo()=5 undo()=4 undo()=3 undo()=2 undo()=1 undo()=0 undo()=NO",
            "v0;");
        row(seven + " undo() count(0)=6 undo() count(0)=5 undo()", "v0;v1;v2;v3;");
        refused(seven + " undo()".repeat(6), "undo()=NO");
        row("lay:v0;w0; backwards()=2 count(4)=1 undo()=0 undo()=NO", "v0;w0;");
        row("lay: backwards()=0 count(4)=1 undo()=0 undo()=NO", "");
        row("lay:v0; act(0,1,0)" + " undo() act(0,1,0)".repeat(7) + " undo()=0 undo()=NO", "v0;");
        // one by which nothing becomes another takes a place among the last 6
        row("lay:v0; act(1,0,0)" + " backwards()=2".repeat(6) + " undo()".repeat(6) + " undo()=NO",
            "v0;w0;");
        refused("act(0,8,0) text:v0; lay()", "undo()=NO");
        refused("act(0,8,0) wipe() lay()", "undo()=NO");
        refused("", "undo()=NO");
        row("act(0,8,0) text:x lay()=NO undo()=0", FIRST);
        undoneOfEachKind();

        sentence("KEPT is THE ROW: 2 at most.");
        run("keep()=1 keep()=2 count(6)=2 keep()=FULL count(6)=2");
        refused("lay:v0; keep() drop() keep() act(0,5,0)", "keep()=FULL");
        row("lay:v0; keep() drop() keep() act(0,5,0) keep()=FULL back()=1", "");
        row("lay:v0; keep() drop() keep() act(0,5,0) keep()=FULL back()=1 back()=0", "v0;");
    }

    private static void undoneOfEachKind() {
        String[][] each = {
            {"v0;v1;", "act(2,0,1)=3"}, {"v0;v1;", "drop()=1"}, {"v0;v1;", "exchange(1)=0"},
            {"v0;w0;v1;w1;", "backwards()=4"}, {"v0;v1;", "clear()=2"}, {FORTY, "backwards()=40"},
            {FORTY, "drop()=39"}, {THIRTY_NINE, "clear()=1"}, {THIRTY_NINE, "act(1,0,0)=40"},
            {"v0;", "drop()=0"}, {"", "act(0,0,0)=1"}};
        for (String[] one : each) {
            String laid = "lay:" + one[0];
            row(laid + " " + one[1] + " count(4)=1 undo()=0 undo()=NO", one[0]);
            due("bars undone", run(laid + " " + one[1] + " undo()").bars(), run(laid).bars());
        }
    }

    // ---- Terms: refusals

    private static void refusals() {
        sentence("BAD: a number is none that is told (ACTS, BARS, GRAPHS such as there are).");
        refused("", "told(0,0)=BAD");
        refused("", "told(16,0)=BAD");
        refused("", "exchange(15)=BAD");
        refused("", "graph(16,0)=BAD");
        refused("", "piece(16,0)=BAD");
        refused("", "lasting(0,16)=BAD");
        // a number that is none now was one before, and the other way round
        run("told(15,0)=1 graph(15,0)=11 drop() told(15,0)=BAD graph(15,0)=BAD piece(15,0)=BAD"
            + " lasting(15,15)=BAD exchange(14)=BAD");
        run("told(16,0)=BAD graph(16,0)=BAD act(0,8,0) told(16,0)=0 graph(16,0)=267 piece(16,8)=8"
            + " lasting(16,16)=2");
        run("bar(7,0)=14 bar(8,0)=NONE drop() bar(7,1)=99 drop() bar(7,0)=NONE");

        sentence("Of several the first in this order; nothing changes then.");
        String text = "text:" + "v".repeat(200);
        refused(text, "write(31)=BAD");
        refused(text, "write(127)=BAD");
        refused(text, "write(32)=FULL");
        String full = "lay:" + FORTY_SOME;
        refused(full, "act(4,0,8)=BAD");
        refused(full, "act(2,8,8)=BAD");
        refused(full, "act(3,0,0)=BAD");
        refused(full, "act(0,8,9)=BAD");
        refused(full, "act(1,0,-1)=BAD");
        refused(full, "act(0,8,0)=NO");
        refused(full, "act(1,1,1)=NO");
        refused(full, "act(2,0,1)=NO");
        refused(full, "act(3,0,8)=NO");
        refused(full, "act(2,0,8)=FULL");
        refused(full, "act(1,8,8)=FULL");
        refused(full, "act(0,1,1)=FULL");
        refused("lay:", "act(2,5,5)=BAD");
        refused("lay:", "act(3,5,5)=BAD");
        refused("lay:" + FORTY, "clear()=NO");
        refused("lay:v0;", "piece(2,1)=BAD");
        refused("lay:v0;", "piece(1,9)=BAD");
        refused("lay:v0;", "piece(1,1)=NONE");
        refused("lay:v0;v1;", "kin(9,2)=BAD");
        refused("lay:v0;v1;", "kin(2,-1)=BAD");
        refused("lay:v0;v1;", "kin(2,0)=NO");
        refused("lay:v0;v1;", "kin(0,1)=NONE");
        refused("lay:v0;", "bar(1,3)=BAD");
        refused("lay:v0;", "bar(1,-1)=BAD");
        refused("lay:v0;", "bar(1,2)=NONE");
        refused("lay:", "steadiest(2)=BAD");
        refused("lay:", "steadiest(1)=NONE");
        refused("lay:", "spelt(-1)=BAD");
        refused("lay:", "spelt(0)=NONE");
        refused("lay:v0;", "told(2,2)=BAD");
        refused("lay:v0;", "told(1,2)=NONE");
        refused("lay:", "exchange(0)=BAD");

        sentence("All that is asked is told of THE ROW as it is then; LAID, THE TEXT stays.");
        asIfLaid("lay:v0;v1;e01; act(3,0,1)", "v0;v1;e01;f01;");
        asIfLaid("lay:v0;v1;e01; drop()", "v0;v1;");
        asIfLaid("lay:v0;v1;v2;e12;e01; exchange(4)", "v0;v1;v2;e01;e12;");
        asIfLaid("lay:v0;w0;v1;v2;w1;w2; backwards()", "v2;v1;w2;w1;v0;w0;");
        asIfLaid("lay:v0;v1;e01; clear()", "v0;v1;e01;f01;w0;w1;");
        asIfLaid("lay:v0;v1;e01; keep() clear() back()", "v0;v1;e01;");
        asIfLaid("lay:v0;v1;e01; clear() undo()", "v0;v1;e01;");
        run("text:v0;v1; lay()=2 count(5)=6 drop() count(5)=6 fault()=NONE lay()=2 wipe()=6");
        run("text:v0;v1; lay()=2 write(118)=7 write(50)=8 write(59)=9 lay()=3");
        unchanged("lay:v0;v1;e01; keep() act(3,0,1) keep() act(0,2,0)", ALL_QUESTIONS);
    }

    private static final String ALL_QUESTIONS = "fault() spelt(3) told(1,0) graph(1,0) piece(2,1)"
        + " root(0) kin(0,1) bar(0,1) lasting(1,2) longer(2) steadiest(0) steadiest(1) other()"
        + " count(4)";

    private static void asIfLaid(String run, String row) {
        Use one = run(run);
        Use like = run("lay:" + row);
        due("row behind " + run, one.row(), row);
        due("bars behind " + run, one.bars(), like.bars());
        int n = like.call("count(0)");
        for (String call : (ALL_QUESTIONS + " count(1) count(2) count(3)").split(" ")) {
            if (!call.startsWith("other") && !call.equals("count(4)") && !call.equals("fault()")) {
                due(call + " behind " + run, one.call(call), like.call(call));
            }
        }
        for (int k = 0; k <= n + 1; k++) {
            String call = "graph(" + k + ",0)";
            due(call + " behind " + run, one.call(call), like.call(call));
        }
    }

    // ---- Promises

    private static void promises1To5() {
        promise(1, "As told; THE TEXT is empty, nothing KEPT.");
        run("count(0)=15 count(1)=3 count(2)=2 count(3)=1 count(4)=0 count(5)=0 count(6)=0");
        run("fault()=NONE wipe()=0 undo()=NO other()=NO back()=NO");
        row("", FIRST);
        bars("", "1-99 2-4 3-6 5-8 7-9 10-11 12-13 14-15");

        promise(2, "A letter (32 to 126, as in ASCII) comes behind THE TEXT: how long it is.");
        run("write(32)=1 write(126)=2 write(59)=3");
        run("write(118)=1 write(48)=2 write(59)=3 fault()=NONE lay()=1 told(1,0)=0");
        promise(2, "BAD; FULL: it has 200.");
        for (String letter : new String[] {"31", "127", "0", "-1", "288", "374", "MIN", "MAX"}) {
            refused("text:v0", "write(" + letter + ")=BAD");
        }
        refused("text:" + "v".repeat(200), "write(126)=FULL");
        run("text:" + "v".repeat(198) + " write(118)=199 write(118)=200 write(118)=FULL");

        promise(3, "THE TEXT is empty: how long it was.");
        run("wipe()=0 write(32)=1 wipe()=1 wipe()=0 count(5)=0 fault()=NONE lay()=0");
        run("text:" + "v".repeat(200) + " wipe()=200 count(5)=0 write(118)=1");
        row("text:v0;v1; wipe()=6", FIRST);
        run("keep() drop() write(32) wipe()=1 count(6)=1 count(4)=1 count(0)=14");

        promise(4, "FAULT. NONE.");
        refused("", "fault()=NONE");
        refused("text:v0;", "fault()=NONE");
        refused("text:" + FORTY, "fault()=NONE");
        unchanged("text:v0;v0;", "fault()");
        run("text:" + FORTY + "v0; fault()=120");

        promise(5, "LAID: how many ACTS; KEPT stays. NO.");
        run("text:v0; lay()=1 wipe() lay()=0 text:" + FORTY + " lay()=40 count(0)=40");
        run("keep()=1 drop() keep()=2 text:v0; lay()=1 count(6)=2 back()=1 count(0)=14");
        refused("keep() drop() text:v0;v0;", "lay()=NO");
        refused("keep() drop() text:" + FORTY + "w0;", "lay()=NO");
        refused("drop() text:v0", "lay()=NO");
    }

    private static void promises6To11() {
        promise(6, "An ACT more behind THE ROW (b does not matter by KINDS 0, 1, but is 0 to 8, too): "
            + "its number.");
        run("lay: act(0,4,0)=1 act(1,4,8)=2 act(0,4,4)=3 act(1,4,4)=4 told(1,2)=NONE told(2,2)=NONE");
        for (String b : new String[] {"-1", "9", "MIN", "MAX"}) {
            refused("lay:v5;", "act(0,4," + b + ")=BAD");
            refused("lay:v5;", "act(1,5," + b + ")=BAD");
        }
        promise(6, "BAD (a, b alike by KINDS 2, 3, too); NO: it can not be done; FULL: there are 40.");
        for (String kind : new String[] {"-1", "4", "MIN", "MAX"}) {
            refused("lay:v0;v1;", "act(" + kind + ",0,1)=BAD");
        }
        refused("lay:v0;v1;e01;", "act(2,1,1)=BAD");
        refused("lay:v0;v1;e01;", "act(3,1,1)=BAD");
        refused("lay:v0;v1;e01;", "act(2,0,1)=NO");
        refused("lay:v0;v1;e01; drop()", "act(3,0,1)=NO");
        for (String call : new String[] {"act(0,1,1)", "act(1,0,0)", "act(2,0,8)"}) {
            refused("lay:" + FORTY_SOME, call + "=FULL");
            run("lay:" + FORTY_SOME + " drop()=39 act(0,0,0)=40 " + call + "=FULL");
        }
        refused("lay:" + mostEdges(), "act(3,0,1)=FULL");
        run("lay:" + THIRTY_NINE + " act(1,0,0)=40 act(0,0,0)=FULL drop()=39 act(1,0,0)=40");

        promise(7, "The last ACT less: how many are left. NO: there is none.");
        run("lay:v0;v1; drop()=1 drop()=0 drop()=NO count(4)=2");
        run("lay:" + FORTY + " drop()=39");
        refused("lay:", "drop()=NO");
        refused("lay:v0; drop()", "drop()=NO");

        promise(8, "EXCHANGED: how many OTHER BARS THE ROW that was has beside the one that is then. "
            + "BAD; NO: it can not be.");
        run("lay:v0;v1; exchange(1)=0 lay:v0;v1;w0; exchange(2)=2");
        run("lay:v0;v1;v2;e01;e12;e02;f01; exchange(6)=0 exchange(6)=1");
        refused("lay:v0;v1; drop()", "exchange(1)=BAD");
        refused("lay:v0;v1;e01;", "exchange(2)=NO");
        refused("lay:v0;v1;e01;", "exchange(3)=BAD");
        refused("lay:v0;v1;e01;", "exchange(0)=BAD");

        promise(9, "BACKWARDS: how many ACTS. NO: GRAPH n is something.");
        run("lay: backwards()=0 lay:v0;w0; backwards()=2 lay:" + FORTY + " backwards()=40");
        refused("lay:v0;", "backwards()=NO");
        refused("lay:v8;", "backwards()=NO");
        refused("", "backwards()=NO");

        promise(10, "CLEARED: how many ACTS came. NO: GRAPH n is nothing; FULL: there would be more "
            + "than 40.");
        run("lay:v0; clear()=1 clear()=NO lay:v0;v1;e01; clear()=3 count(0)=6 count(4)=1");
        refused("lay:", "clear()=NO");
        refused("lay:v0;w0;", "clear()=NO");
        // as acts and what is there are both odd or both even, 41 is never met: 40 and 42 are
        run("lay:" + THIRTY_NINE + " clear()=1 count(0)=40 count(4)=1");
        run("lay:" + "v0;w0;".repeat(18) + "v0;v1; clear()=2 count(0)=40");
        run("lay:" + ALL_POINTS + elevenEdges() + " clear()=20 count(0)=40 count(1)=0");
        refused("lay:" + "v0;w0;".repeat(18) + "v0;v1;v2;", "clear()=FULL");
        refused("lay:" + "v0;w0;".repeat(18) + "v0;v1;e01;", "clear()=FULL");
        refused("lay:" + FORTY_SOME, "clear()=FULL");
        refused("lay:" + ALL_POINTS + elevenEdges() + "e25;", "clear()=FULL");
        refused("lay:" + mostEdges(), "clear()=FULL");

        promise(11, "UNDONE: how many more can be. NO.");
        run("lay:v0;v1; drop() drop() undo()=1 undo()=0 undo()=NO");
        run("lay:v0; " + "act(0,1,0) drop() ".repeat(4) + "undo()=5 undo()=4 count(4)=4");
        refused("lay:v0; drop() undo()", "undo()=NO");
        refused("lay:v0; keep() drop() back()", "undo()=NO");
        // a change behind an undo takes the place of the one undone
        row("lay:v0; act(0,1,0) act(0,2,0) undo()=1 act(0,3,0) undo()=1 undo()=0 undo()=NO", "v0;");
    }

    private static String elevenEdges() {
        return "e01;e02;e03;e04;e05;e06;e07;e08;e12;e23;e24;";
    }

    private static void promises12To17() {
        promise(12, "The k-th letter (k 0 or more) of THE ROW spelt: ITEMS as in THE TEXT, one for each "
            + "ACT (of an EDGE the lower POINT first).");
        run("lay:v8;v0;e80; spelt(0)=118 spelt(1)=56 spelt(2)=59 spelt(3)=118 spelt(6)=101 "
            + "spelt(7)=48 spelt(8)=56 spelt(9)=59 spelt(10)=NONE");
        run("lay:v8;v0;e80;f80;w8; spelt(10)=102 spelt(11)=48 spelt(12)=56 spelt(13)=59 "
            + "spelt(14)=119 spelt(15)=56 spelt(16)=59 spelt(17)=NONE");
        promise(12, "BAD (k below 0); NONE: not so many.");
        refused("lay:v0;", "spelt(-1)=BAD");
        refused("lay:v0;", "spelt(MIN)=BAD");
        refused("lay:v0;", "spelt(3)=NONE");
        refused("lay:v0;", "spelt(MAX)=NONE");
        refused("lay:", "spelt(0)=NONE");
        run("lay:" + FORTY + " spelt(119)=59 spelt(120)=NONE");
        run("lay:v0;v1;" + "e01;f01;".repeat(19) + " spelt(157)=59 spelt(154)=102 spelt(158)=NONE");

        promise(13, "Of an ACT: KIND (what = 0), a (1; of an EDGE the lower POINT), b (2; the other one; "
            + "NONE of POINTS). BAD.");
        run("lay:v8;v0;e80;f80;w8; told(1,0)=0 told(1,1)=8 told(1,2)=NONE told(3,0)=2 told(3,1)=0"
            + " told(3,2)=8 told(4,0)=3 told(4,1)=0 told(4,2)=8 told(5,0)=1 told(5,1)=8"
            + " told(5,2)=NONE");
        for (String wrong : new String[] {"0,0", "4,0", "-1,0", "MIN,0", "MAX,0", "0,2", "4,2",
            "1,-1", "1,3", "1,MIN", "1,MAX", "0,3", "MAX,MAX"}) {
            refused("lay:v0;v1;e01;", "told(" + wrong + ")=BAD");
        }
        refused("lay:", "told(1,0)=BAD");
        refused("lay:v0;v1;e01;", "told(1,2)=NONE");
        run("lay:" + FORTY + " told(40,0)=1 told(40,2)=NONE told(41,0)=BAD");

        promise(14, "Of GRAPH k: POINTS as bits (what = 0), EDGES (1), PIECES (2), LOOPS (3). BAD.");
        run("lay:v0;v8;e08; graph(0,0)=0 graph(2,0)=257 graph(3,1)=1 graph(3,2)=1 graph(3,3)=0");
        for (String wrong : new String[] {"-1,0", "4,0", "MIN,0", "MAX,0", "0,-1", "0,4", "3,4",
            "0,MIN", "0,MAX", "-1,4"}) {
            refused("lay:v0;v8;e08;", "graph(" + wrong + ")=BAD");
        }
        run("lay:" + FORTY_SOME + " graph(40,2)=2 graph(41,2)=BAD");

        promise(15, "The lowest POINT of the PIECE of a POINT in GRAPH k. BAD; NONE: it is not there.");
        run("lay:v8;v0;e08;f08;w0; piece(1,8)=8 piece(2,8)=8 piece(3,8)=0 piece(3,0)=0 piece(4,8)=8"
            + " piece(5,8)=8");
        run("lay:v8;v0;e08;f08;w0; piece(0,0)=NONE piece(0,8)=NONE piece(1,0)=NONE piece(5,0)=NONE");
        for (String wrong : new String[] {"-1,0", "2,0", "MIN,0", "MAX,0", "0,-1", "0,9", "1,9",
            "1,MIN", "1,MAX"}) {
            refused("lay:v0;", "piece(" + wrong + ")=BAD");
        }
        refused("lay:v0;", "piece(0,0)=NONE");
        refused("lay:v0;", "piece(1,8)=NONE");

        promise(16, "ROOT of the PIECE of a POINT now. BAD; NONE: it is not there.");
        run("lay:v0;v8; root(0)=1 root(8)=2 lay:" + THIRTY_NINE + " act(0,8,0) root(8)=40");
        refused("lay:v0;", "root(-1)=BAD");
        refused("lay:v0;", "root(9)=BAD");
        refused("lay:v0;", "root(8)=NONE");
        refused("lay:v0;w0;", "root(0)=NONE");
        refused("lay:", "root(0)=NONE");

        promise(17, "Since when the PIECES of two POINTS are KIN now. BAD; NO: one is not there, or both "
            + "are of one PIECE; NONE: they are not.");
        run("lay:v0;v8;e08;f08; kin(0,8)=4 kin(8,0)=4");
        refused("lay:v0;v8;", "kin(0,8)=NONE");
        refused("lay:v0;v8;e08;", "kin(0,8)=NO");
        refused("lay:v0;v8;", "kin(0,1)=NO");
        refused("lay:v0;v8;", "kin(1,0)=NO");
        refused("lay:v0;v8;", "kin(1,2)=NO");
        refused("lay:v0;v8;", "kin(0,0)=NO");
        refused("lay:v0;v8;", "kin(1,1)=NO");
        refused("lay:v0;v8;e08;f08;w8;", "kin(0,8)=NO");
        refused("lay:v0;v8;", "kin(9,9)=BAD");
        refused("lay:v0;v8;", "kin(-1,1)=BAD");
        refused("lay:v0;v8;", "kin(1,9)=BAD");
    }

    private static void promises18To21() {
        promise(18, "BARS: how many (i = -1), OPEN ones (i = -2), those that END (i = -3)");
        run("lay:v0;v1;w1; bar(-1,0)=2 bar(-2,0)=1 bar(-3,0)=1 bar(-1,2)=2 bar(-2,1)=1 bar(-3,2)=1");
        run("lay: bar(-1,0)=0 bar(-2,0)=0 bar(-3,0)=0");
        promise(18, "of the i-th: BEGIN (what = 0), END (1), how many GRAPHS it LASTS in (2); what is 0 "
            + "to 2 always. BAD (i below -3, too); NONE: not so many.");
        run("lay:v0;v1;w1; bar(0,0)=1 bar(0,1)=99 bar(0,2)=3 bar(1,0)=2 bar(1,1)=3 bar(1,2)=1");
        for (String wrong : new String[] {"-4,0", "MIN,0", "-1,-1", "-1,3", "-2,3", "-3,-1", "-3,3",
            "0,-1", "0,3", "2,3", "0,MIN", "0,MAX", "MAX,3", "-4,3"}) {
            refused("lay:v0;v1;w1;", "bar(" + wrong + ")=BAD");
        }
        for (String none : new String[] {"2,0", "2,1", "2,2", "3,0", "MAX,0"}) {
            refused("lay:v0;v1;w1;", "bar(" + none + ")=NONE");
        }
        refused("lay:", "bar(0,0)=NONE");
        run("lay:" + FORTY + " bar(19,0)=39 bar(19,1)=40 bar(19,2)=1 bar(20,0)=NONE");

        promise(19, "How many BARS LAST in GRAPH i and in GRAPH j (and in all between; i no more than "
            + "j). BAD.");
        run("lay:v0;w0;v0; lasting(0,0)=0 lasting(0,3)=0 lasting(1,1)=1 lasting(1,3)=0 lasting(3,3)=1");
        run("lay: lasting(0,0)=0");
        run("lay:" + FORTY_SOME + " lasting(1,40)=1 lasting(0,40)=0 lasting(40,40)=2");
        for (String wrong : new String[] {"-1,0", "-1,-1", "0,4", "4,4", "1,0", "3,2", "MIN,0",
            "0,MAX", "MIN,MAX", "MAX,MAX", "MIN,MIN", "MAX,MIN", "4,3"}) {
            refused("lay:v0;w0;v0;", "lasting(" + wrong + ")=BAD");
        }
        refused("lay:", "lasting(0,1)=BAD");

        promise(20, "How many BARS LAST in m (1 to 41) GRAPHS or more. BAD.");
        run("lay:v0;v1;w1; longer(1)=2 longer(2)=1 longer(3)=1 longer(4)=0 longer(41)=0");
        run("lay: longer(1)=0 longer(41)=0");
        run("lay:" + FORTY_SOME + " longer(1)=21 longer(2)=1 longer(40)=1 longer(41)=0");
        for (String wrong : new String[] {"0", "-1", "42", "MIN", "MAX"}) {
            refused("lay:" + FORTY_SOME, "longer(" + wrong + ")=BAD");
        }

        promise(21, "STEADIEST EXCHANGE: k (what = 0), the longest BAR then (1). BAD; NONE: no ACTS can "
            + "be EXCHANGED.");
        run("lay:v0;v1; steadiest(0)=1 steadiest(1)=2");
        for (String wrong : new String[] {"-1", "2", "MIN", "MAX"}) {
            refused("lay:v0;v1;", "steadiest(" + wrong + ")=BAD");
        }
        for (String row : new String[] {"", "v0;", "v0;w0;", FORTY}) {
            refused("lay:" + row, "steadiest(0)=NONE");
            refused("lay:" + row, "steadiest(1)=NONE");
            refused("lay:" + row, "steadiest(2)=BAD");
        }
        unchanged("lay:v0;v1;v2;e01;e12; keep() exchange(1)", "steadiest(0)");
    }

    private static void promises22To25() {
        promise(22, "KEPT: how many. FULL.");
        run("keep()=1 keep()=2 keep()=FULL back()=1 keep()=2 keep()=FULL");
        refused("lay:v0; keep() drop() keep() act(0,7,0)", "keep()=FULL");
        row("lay:v0;v1; drop() keep()=1 count(4)=1 undo()=0 count(6)=1", "v0;v1;");
        row("lay: keep()=1 act(0,0,0) back()=0", "");

        promise(23, "OTHER BARS that THE ROW has beside that KEPT last. NO: none is.");
        refused("drop()", "other()=NO");
        refused("drop() keep() back()", "other()=NO");
        run("lay: keep() other()=0 act(0,0,0) other()=1 keep() other()=0 back() back() other()=NO");
        run("lay:" + FORTY + " keep() lay: other()=0");
        run("lay: keep() lay:" + FORTY + " other()=20");
        unchanged("lay:v0; keep() act(0,1,1)", "other()");

        promise(24, "As KEPT last (it is KEPT no more then): how many are left; nothing can be UNDONE "
            + "then. NO.");
        row("lay:v0; keep() act(0,1,1) keep() act(0,2,2) back()=1 undo()=NO count(4)=0", "v0;v1;");
        row("lay:v0; keep() act(0,1,1) keep() act(0,2,2) back()=1 back()=0 back()=NO", "v0;");
        refused("lay:v0; drop()", "back()=NO");
        refused("lay:v0; keep() back() drop()", "back()=NO");
        run("text:v0; keep() back()=0 count(5)=3 count(4)=0");
        row("lay:" + FORTY + " keep() drop() back()=0", FORTY);

        promise(25, "How many: 0 ACTS, 1 POINTS now, 2 EDGES now, 3 PIECES now, 4 changes that can be "
            + "UNDONE, 5 letters of THE TEXT, 6 KEPT. BAD.");
        run("lay: count(0)=0 count(1)=0 count(2)=0 count(3)=0 count(4)=0 count(5)=0 count(6)=0");
        run("lay:" + mostEdges() + " count(0)=40 count(1)=9 count(2)=31 count(3)=1 count(5)=151");
        run("text:" + "v".repeat(200) + " keep() keep() " + "drop() ".repeat(7)
            + "count(4)=6 count(5)=200 count(6)=2 count(0)=8");
        for (String wrong : new String[] {"-1", "7", "MIN", "MAX"}) {
            refused("lay:v0;v1; keep() drop()", "count(" + wrong + ")=BAD");
        }
    }

    /** Where a number is told, the smallest and the largest int, in each place, in each state. */
    private static void smallestAndLargest() {
        sentence("BAD: a number is none that is told");
        String[] calls = {"write(#)", "act(#,0,1)", "act(0,#,1)", "act(2,0,#)", "act(1,0,#)",
            "exchange(#)", "spelt(#)", "told(#,0)", "told(1,#)", "graph(#,0)", "graph(0,#)",
            "piece(#,0)", "piece(0,#)", "root(#)", "kin(#,0)", "kin(0,#)", "bar(#,0)", "bar(0,#)",
            "bar(-1,#)", "lasting(#,0)", "lasting(0,#)", "lasting(#,#)", "longer(#)",
            "steadiest(#)", "count(#)"};
        String[] states = {"", "lay:", "lay:" + FORTY_SOME, "text:v0 keep() drop()"};
        for (String state : states) {
            for (String call : calls) {
                boolean none = call.startsWith("spelt") || call.startsWith("bar(#");
                refused(state, call.replace("#", "MIN") + "=BAD");
                refused(state, call.replace("#", "MAX") + (none ? "=NONE" : "=BAD"));
            }
        }
    }

    /** Every refusal that a promise names has been met above, and every promise has a sentence. */
    private static void nothingLeftOut() {
        sentence = "Promise";
        for (int number = 1; number <= 25; number++) {
            String text = promiseText(number);
            holds("promise " + number + " has a sentence here", PROMISES.contains(number));
            Matcher name = Pattern.compile("`int (\\w+)\\(").matcher(text);
            if (!name.find()) {
                continue;
            }
            for (String refusal : REFUSALS) {
                boolean named = Pattern.compile("\\b" + refusal + "\\b").matcher(text).find();
                boolean met = REFUSED.contains(name.group(1) + " " + refusal);
                holds(name.group(1) + " answers " + refusal + " if and only if it is named",
                    named == met);
            }
        }
    }
}
