import java.util.ArrayList;
import java.util.Arrays;
import java.util.List;
import java.util.Random;
import java.util.TreeSet;

/**
 * Long runs of chosen calls, each answer beside that of a model: the document's rules once more,
 * with pieces as objects and kin as a list of pairs, so that a slip of the class is not made twice.
 */
public final class ModelTest {
    private static final int RUNS = 1500;
    private static final int CALLS = 512;
    private static final int ROWS = 3000;
    private static int checked = 0;
    private static int wrong = 0;

    public static void main(String[] args) {
        for (int run = 0; run < RUNS; run++) {
            play(run);
        }
        for (int run = 0; run < ROWS; run++) {
            tellWhole(run);
        }
        System.out.println("ModelTest: " + (checked - wrong) + " passed, " + wrong + " failed");
        if (wrong != 0 || checked == 0) {
            System.exit(1);
        }
    }

    private static void play(int run) {
        Random chance = new Random(run);
        ZigzagPieces real = new ZigzagPieces();
        Model model = new Model();
        String[] methods = {"write", "wipe", "fault", "lay", "act", "drop", "exchange", "backwards",
            "clear", "undo", "spelt", "told", "graph", "piece", "root", "kin", "bar", "lasting",
            "longer", "steadiest", "keep", "other", "back", "count"};
        int style = run % 5;
        for (int call = 0; call < CALLS; call++) {
            if (style == 4 && call % 128 == 0) {
                call += writeSomeText(run, chance, real, model);
                continue;
            }
            String method = style != 0 && chance.nextInt(3) != 0 ? favourite(style, chance)
                : methods[chance.nextInt(methods.length)];
            int n = model.row.size();
            int[] with = arguments(method, chance, n, model);
            compare(run, call, method, with, real, model);
        }
    }

    /** A long row in which pieces part and join again and again, then all that is told of it. */
    private static void tellWhole(int run) {
        Random chance = new Random(90000 + run);
        ZigzagPieces real = new ZigzagPieces();
        Model model = new Model();
        compare(run, 0, "lay", new int[0], real, model);
        int points = 4 + run % 6;
        int shift = chance.nextInt(9);
        for (int i = 0; i < points; i++) {
            compare(run, 0, "act", new int[] {0, (i + shift) % 9, 0}, real, model);
        }
        int length = 20 + chance.nextInt(21);
        for (int tries = 0; tries < 300 && model.row.size() < length; tries++) {
            int kind = new int[] {0, 1, 2, 2, 2, 3, 3, 3}[chance.nextInt(8)];
            int a = (chance.nextInt(points) + shift) % 9;
            int b = (chance.nextInt(points) + shift) % 9;
            if (kind < 2 || a != b) {
                compare(run, tries, "act", new int[] {kind, a, b}, real, model);
            }
        }
        for (int a = 0; a < 9; a++) {
            compare(run, 0, "root", new int[] {a}, real, model);
            for (int b = 0; b < 9; b++) {
                compare(run, 0, "kin", new int[] {a, b}, real, model);
            }
        }
        for (int i = -3; i < 41; i++) {
            compare(run, 0, "bar", new int[] {i, 0}, real, model);
            compare(run, 0, "bar", new int[] {i, 1}, real, model);
        }
    }

    private static String favourite(int style, Random chance) {
        String[][] liked = {{},
            {"act", "act", "act", "act", "bar", "kin", "root"},
            {"act", "act", "act", "exchange", "exchange", "steadiest", "other", "keep", "undo"},
            {"act", "act", "clear", "backwards", "drop", "undo", "lasting", "back", "keep"},
            {"act", "act", "spelt", "lay", "fault", "bar", "piece", "graph"}};
        String[] some = liked[style];
        return some[chance.nextInt(some.length)];
    }

    /** Acts are mostly such as can be done, so that rows grow long. */
    private static int[] arguments(String method, Random chance, int n, Model model) {
        boolean wild = chance.nextInt(20) == 0;
        switch (method) {
            case "write":
                return new int[] {wild ? chance.nextInt(200) - 30
                    : "vwef;012345678".charAt(chance.nextInt(14))};
            case "act":
                if (wild) {
                    return new int[] {chance.nextInt(7) - 1, chance.nextInt(11) - 1,
                        chance.nextInt(11) - 1};
                }
                return likelyAct(chance, model);
            case "told":
            case "graph":
                return new int[] {chance.nextInt(n + 4) - 2, chance.nextInt(6) - 1};
            case "piece":
                return new int[] {chance.nextInt(n + 4) - 2, chance.nextInt(11) - 1};
            case "kin":
                return new int[] {chance.nextInt(wild ? 12 : 9) - (wild ? 1 : 0),
                    chance.nextInt(wild ? 12 : 9) - (wild ? 1 : 0)};
            case "bar":
                return new int[] {chance.nextInt(25) - 5, chance.nextInt(wild ? 5 : 3)
                    - (wild ? 1 : 0)};
            case "lasting":
                int i = chance.nextInt(n + 1);
                return wild ? new int[] {chance.nextInt(n + 4) - 2, chance.nextInt(n + 4) - 2}
                    : new int[] {i, i + chance.nextInt(n + 1 - i)};
            case "exchange":
            case "spelt":
                return new int[] {chance.nextInt(n + 4) - 1 + ("spelt".equals(method)
                    ? chance.nextInt(3 * n + 1) : 0)};
            case "root":
                return new int[] {chance.nextInt(wild ? 14 : 9) - (wild ? 2 : 0)};
            case "longer":
                return new int[] {chance.nextInt(wild ? 50 : 20) - 2};
            case "steadiest":
                return new int[] {chance.nextInt(4) - 1};
            case "count":
                return new int[] {chance.nextInt(10) - 1};
            default:
                return new int[0];
        }
    }

    private static int[] likelyAct(Random chance, Model model) {
        for (int tries = 0; tries < 30; tries++) {
            int kind = new int[] {0, 0, 1, 2, 2, 2, 3, 3}[chance.nextInt(8)];
            int[] act = {kind, chance.nextInt(9), chance.nextInt(9)};
            if (model.row.size() < 40 && model.couldAdd(act)) {
                return act;
            }
        }
        return new int[] {chance.nextInt(4), chance.nextInt(9), chance.nextInt(9)};
    }

    /** A text whose items are those of a row that can be done, now and then with one fault. */
    private static int writeSomeText(int run, Random chance, ZigzagPieces real, Model model) {
        compare(run, 0, "wipe", new int[0], real, model);
        Model other = new Model();
        other.row.clear();
        int length = chance.nextInt(43);
        for (int i = 0; i < length; i++) {
            int[] act = likelyAct(chance, other);
            if (other.couldAdd(act) || chance.nextInt(4) == 0) {
                other.row.add(new int[] {act[0], act[1], act[2]});
            }
        }
        StringBuilder text = new StringBuilder();
        for (int[] act : other.row) {
            text.append("vwef".charAt(act[0])).append(act[1]);
            text.append(act[0] < 2 ? "" : act[2]).append(';');
        }
        if (chance.nextInt(3) == 0 && text.length() > 0) {
            text.setCharAt(chance.nextInt(text.length()), "vwef;0189x"
                .charAt(chance.nextInt(10)));
        }
        for (int i = 0; i < text.length(); i++) {
            compare(run, i, "write", new int[] {text.charAt(i)}, real, model);
        }
        compare(run, 0, "fault", new int[0], real, model);
        compare(run, 0, "lay", new int[0], real, model);
        return text.length() + 3;
    }

    private static void compare(int run, int call, String method, int[] with, ZigzagPieces real,
            Model model) {
        int got = ask(real, method, with);
        int want = model.answer(method, with);
        checked++;
        if (got != want) {
            wrong++;
            if (wrong < 20) {
                System.out.println("run " + run + ", call " + call + ": " + method
                    + Arrays.toString(with) + " answered " + got + ", the model " + want);
            }
        }
    }

    private static int ask(ZigzagPieces x, String method, int[] w) {
        switch (method) {
            case "write": return x.write(w[0]);
            case "wipe": return x.wipe();
            case "fault": return x.fault();
            case "lay": return x.lay();
            case "act": return x.act(w[0], w[1], w[2]);
            case "drop": return x.drop();
            case "exchange": return x.exchange(w[0]);
            case "backwards": return x.backwards();
            case "clear": return x.clear();
            case "undo": return x.undo();
            case "spelt": return x.spelt(w[0]);
            case "told": return x.told(w[0], w[1]);
            case "graph": return x.graph(w[0], w[1]);
            case "piece": return x.piece(w[0], w[1]);
            case "root": return x.root(w[0]);
            case "kin": return x.kin(w[0], w[1]);
            case "bar": return x.bar(w[0], w[1]);
            case "lasting": return x.lasting(w[0], w[1]);
            case "longer": return x.longer(w[0]);
            case "steadiest": return x.steadiest(w[0]);
            case "keep": return x.keep();
            case "other": return x.other();
            case "back": return x.back();
            default: return x.count(w[0]);
        }
    }

    /** A piece as the document has it: its points and its root. */
    private static final class Piece {
        final TreeSet<Integer> points = new TreeSet<>();
        int root;
    }

    private static final class Kin {
        final Piece one;
        final Piece two;
        final int since;

        Kin(Piece one, Piece two, int since) {
            this.one = one;
            this.two = two;
            this.since = since;
        }
    }

    /** All that there is behind some acts of a row. */
    private static final class World {
        final TreeSet<Integer> points = new TreeSet<>();
        final TreeSet<Integer> edges = new TreeSet<>();
        List<Piece> pieces = new ArrayList<>();
        List<Kin> kin = new ArrayList<>();
        final List<int[]> bars = new ArrayList<>();
        int acts = 0;

        static int edge(int a, int b) {
            return Math.min(a, b) * 10 + Math.max(a, b);
        }

        boolean can(int[] act) {
            int a = act[1];
            int b = act[2];
            switch (act[0]) {
                case 0: return !points.contains(a);
                case 1: return points.contains(a) && edges.stream()
                    .noneMatch(e -> e / 10 == a || e % 10 == a);
                case 2: return a != b && points.contains(a) && points.contains(b)
                    && !edges.contains(edge(a, b));
                default: return edges.contains(edge(a, b));
            }
        }

        Piece of(int point) {
            for (Piece piece : pieces) {
                if (piece.points.contains(point)) {
                    return piece;
                }
            }
            return null;
        }

        Integer since(Piece p, Piece q) {
            for (Kin k : kin) {
                if (k.one == p && k.two == q || k.one == q && k.two == p) {
                    return k.since;
                }
            }
            return null;
        }

        void forget(Piece p) {
            kin.removeIf(k -> k.one == p || k.two == p);
            pieces.remove(p);
        }

        void set(Piece p, Piece q, int since) {
            kin.removeIf(k -> k.one == p && k.two == q || k.one == q && k.two == p);
            kin.add(new Kin(p, q, since));
        }

        TreeSet<Integer> reach(int from) {
            TreeSet<Integer> seen = new TreeSet<>();
            List<Integer> next = new ArrayList<>(List.of(from));
            while (!next.isEmpty()) {
                int p = next.remove(next.size() - 1);
                if (seen.add(p)) {
                    for (int e : edges) {
                        if (e / 10 == p) {
                            next.add(e % 10);
                        } else if (e % 10 == p) {
                            next.add(e / 10);
                        }
                    }
                }
            }
            return seen;
        }

        void goes(Piece p, int end) {
            int begin = 0;
            for (Kin k : kin) {
                if (k.one == p || k.two == p) {
                    begin = Math.max(begin, k.since);
                }
            }
            bars.add(new int[] {begin == 0 ? p.root : begin, end});
            forget(p);
        }

        void act(int[] act) {
            acts++;
            int a = act[1];
            int b = act[2];
            if (act[0] == 0) {
                points.add(a);
                Piece p = new Piece();
                p.points.add(a);
                p.root = acts;
                pieces.add(p);
            } else if (act[0] == 1) {
                points.remove(a);
                goes(of(a), acts);
            } else if (act[0] == 2) {
                edges.add(edge(a, b));
                if (of(a) != of(b)) {
                    join(of(a), of(b));
                }
            } else {
                edges.remove(edge(a, b));
                if (!reach(a).contains(b)) {
                    part(of(a), reach(a), reach(b));
                }
            }
        }

        void part(Piece p, TreeSet<Integer> one, TreeSet<Integer> two) {
            Piece first = new Piece();
            Piece second = new Piece();
            first.points.addAll(one);
            second.points.addAll(two);
            first.root = p.root;
            second.root = p.root;
            for (Piece other : pieces) {
                Integer since = other == p ? null : since(p, other);
                if (since != null) {
                    kin.add(new Kin(first, other, since));
                    kin.add(new Kin(second, other, since));
                }
            }
            forget(p);
            pieces.add(first);
            pieces.add(second);
            kin.add(new Kin(first, second, acts));
        }

        void join(Piece p, Piece q) {
            Piece n = new Piece();
            n.points.addAll(p.points);
            n.points.addAll(q.points);
            Integer c = since(p, q);
            List<Kin> fresh = new ArrayList<>();
            List<Piece> others = new ArrayList<>(pieces);
            others.remove(p);
            others.remove(q);
            for (Piece x : others) {
                Integer xp = since(x, p);
                Integer xq = since(x, q);
                if (xp != null || xq != null) {
                    fresh.add(new Kin(n, x, Math.max(xp == null ? 0 : xp, xq == null ? 0 : xq)));
                }
                for (Piece y : others) {
                    Integer yq = since(y, q);
                    boolean far = xp != null && yq != null && (c == null || xp > c && yq > c);
                    if (far) {
                        fresh.add(new Kin(x, y, Math.min(xp, yq)));
                    }
                }
            }
            if (c != null) {
                bars.add(new int[] {c, acts});
                n.root = p.root;
            } else {
                bars.add(new int[] {Math.max(p.root, q.root), acts});
                n.root = Math.min(p.root, q.root);
                for (Piece x : others) {
                    if (since(x, p) != null || since(x, q) != null) {
                        x.root = n.root;
                    }
                }
            }
            forget(p);
            forget(q);
            pieces.add(n);
            for (Kin k : fresh) {
                set(k.one, k.two, k.since);
            }
        }

        void end() {
            pieces.sort((p, q) -> p.points.first() - q.points.first());
            List<Piece> going = new ArrayList<>(pieces);
            List<Piece> allPieces = new ArrayList<>(pieces);
            List<Kin> allKin = new ArrayList<>(kin);
            for (Piece p : going) {
                goes(p, 99);
            }
            pieces = allPieces;
            kin = allKin;
            bars.sort((x, y) -> x[0] != y[0] ? x[0] - y[0] : x[1] - y[1]);
        }
    }

    private static final class Model {
        final List<int[]> row = new ArrayList<>();
        final StringBuilder text = new StringBuilder();
        final List<List<int[]>> undoable = new ArrayList<>();
        final List<List<int[]>> kept = new ArrayList<>();
        private final List<int[]> read = new ArrayList<>();

        Model() {
            text.append("v0;v1;v2;e01;v3;e12;f01;e23;w0;v0;e03;f23;e01;f12;w2;");
            lay();
            text.setLength(0);
        }

        static World world(List<int[]> acts, int until) {
            World w = new World();
            for (int[] act : acts.subList(0, until)) {
                if (!w.can(act)) {
                    return null;
                }
                w.act(act);
            }
            w.end();
            return w;
        }

        World world() {
            return world(row, row.size());
        }

        boolean couldAdd(int[] act) {
            World w = world();
            return w != null && w.can(act);
        }

        int fault() {
            read.clear();
            World w = new World();
            String rest = text.toString();
            int place = 0;
            while (!rest.isEmpty()) {
                java.util.regex.Matcher m = java.util.regex.Pattern
                    .compile("([vw])([0-8]);|([ef])([0-8])([0-8]);").matcher(rest);
                if (!m.lookingAt() || read.size() == 40) {
                    return place;
                }
                boolean point = m.group(1) != null;
                String letter = point ? m.group(1) : m.group(3);
                int a = Integer.parseInt(point ? m.group(2) : m.group(4));
                int b = point ? a : Integer.parseInt(m.group(5));
                int[] act = {"vwef".indexOf(letter), a, b};
                if (!w.can(act)) {
                    return place;
                }
                w.act(act);
                read.add(act);
                place += m.end();
                rest = rest.substring(m.end());
            }
            return -4;
        }

        int lay() {
            if (fault() != -4) {
                return -2;
            }
            row.clear();
            row.addAll(read);
            undoable.clear();
            return row.size();
        }

        void remember() {
            undoable.add(new ArrayList<>(row));
            if (undoable.size() > 6) {
                undoable.remove(0);
            }
        }

        void become(List<int[]> acts) {
            List<int[]> copy = new ArrayList<>(acts);
            row.clear();
            row.addAll(copy);
        }

        static int others(World one, World two) {
            List<String> left = new ArrayList<>();
            for (int[] bar : two.bars) {
                left.add(bar[0] + ":" + bar[1]);
            }
            int others = 0;
            for (int[] bar : one.bars) {
                if (!left.remove(bar[0] + ":" + bar[1])) {
                    others++;
                }
            }
            return others;
        }

        List<int[]> exchanged(int k) {
            List<int[]> other = new ArrayList<>(row);
            int[] first = other.get(k - 1);
            other.set(k - 1, other.get(k));
            other.set(k, first);
            return other;
        }

        static int length(int[] bar, int n) {
            return (bar[1] == 99 ? n + 1 : bar[1]) - bar[0];
        }

        String spelling() {
            StringBuilder all = new StringBuilder();
            for (int[] act : row) {
                all.append("vwef".charAt(act[0]));
                all.append(act[0] < 2 ? act[1] : Math.min(act[1], act[2]));
                all.append(act[0] < 2 ? "" : Math.max(act[1], act[2])).append(';');
            }
            return all.toString();
        }

        static boolean within(int number, int least, int most) {
            return number >= least && number <= most;
        }

        int answer(String method, int[] w) {
            int n = row.size();
            switch (method) {
                case "write":
                    if (!within(w[0], 32, 126)) return -1;
                    if (text.length() == 200) return -3;
                    text.append((char) w[0]);
                    return text.length();
                case "wipe":
                    int was = text.length();
                    text.setLength(0);
                    return was;
                case "fault":
                    return fault();
                case "lay":
                    return lay();
                case "undo":
                    if (undoable.isEmpty()) return -2;
                    become(undoable.remove(undoable.size() - 1));
                    return undoable.size();
                case "spelt":
                    if (w[0] < 0) return -1;
                    return w[0] < spelling().length() ? spelling().charAt(w[0]) : -4;
                case "keep":
                    if (kept.size() == 2) return -3;
                    kept.add(new ArrayList<>(row));
                    return kept.size();
                case "other":
                    if (kept.isEmpty()) return -2;
                    List<int[]> last = kept.get(kept.size() - 1);
                    return others(world(), world(last, last.size()));
                case "back":
                    if (kept.isEmpty()) return -2;
                    become(kept.remove(kept.size() - 1));
                    undoable.clear();
                    return kept.size();
                case "act": case "drop": case "exchange": case "backwards": case "clear":
                    return change(method, w, n);
                case "bar": case "lasting": case "longer": case "steadiest":
                    return ofBars(method, w, n);
                default:
                    return ofGraphs(method, w, n);
            }
        }

        int change(String method, int[] w, int n) {
            World now = world();
            switch (method) {
                case "act":
                    if (!within(w[0], 0, 3) || !within(w[1], 0, 8) || !within(w[2], 0, 8)) return -1;
                    if (w[0] > 1 && w[1] == w[2]) return -1;
                    if (!now.can(w)) return -2;
                    if (n == 40) return -3;
                    remember();
                    row.add(w.clone());
                    return n + 1;
                case "drop":
                    if (n == 0) return -2;
                    remember();
                    row.remove(n - 1);
                    return n - 1;
                case "exchange":
                    if (!within(w[0], 1, n - 1)) return -1;
                    World then = world(exchanged(w[0]), n);
                    if (then == null) return -2;
                    remember();
                    become(exchanged(w[0]));
                    return others(now, then);
                case "backwards":
                    if (!now.points.isEmpty()) return -2;
                    remember();
                    List<int[]> turned = new ArrayList<>();
                    for (int[] act : row) {
                        turned.add(0, new int[] {new int[] {1, 0, 3, 2}[act[0]], act[1], act[2]});
                    }
                    become(turned);
                    return n;
                default:
                    if (now.points.isEmpty()) return -2;
                    int came = now.points.size() + now.edges.size();
                    if (n + came > 40) return -3;
                    remember();
                    for (int e : now.edges) row.add(new int[] {3, e / 10, e % 10});
                    for (int p : now.points) row.add(new int[] {1, p, p});
                    return came;
            }
        }

        int ofBars(String method, int[] w, int n) {
            List<int[]> bars = world().bars;
            switch (method) {
                case "bar":
                    if (w[0] < -3 || !within(w[1], 0, 2)) return -1;
                    int open = (int) bars.stream().filter(bar -> bar[1] == 99).count();
                    if (w[0] < 0) return new int[] {bars.size(), open, bars.size() - open}[-1 - w[0]];
                    if (w[0] >= bars.size()) return -4;
                    return w[1] == 2 ? length(bars.get(w[0]), n) : bars.get(w[0])[w[1]];
                case "lasting":
                    if (w[0] < 0 || w[1] > n || w[0] > w[1]) return -1;
                    return (int) bars.stream().filter(bar -> bar[0] <= w[0] && w[1] < bar[1]).count();
                case "longer":
                    if (!within(w[0], 1, 41)) return -1;
                    return (int) bars.stream().filter(bar -> length(bar, n) >= w[0]).count();
                default:
                    if (!within(w[0], 0, 1)) return -1;
                    int[] best = {-4, -4};
                    for (int k = 1; k < n; k++) {
                        World then = world(exchanged(k), n);
                        int longest = then == null ? -4
                            : then.bars.stream().mapToInt(bar -> length(bar, n)).max().orElse(0);
                        if (longest > best[1]) best = new int[] {k, longest};
                    }
                    return best[w[0]];
            }
        }

        int ofGraphs(String method, int[] w, int n) {
            World now = world();
            switch (method) {
                case "told":
                    if (!within(w[0], 1, n) || !within(w[1], 0, 2)) return -1;
                    int[] act = row.get(w[0] - 1);
                    if (w[1] == 0) return act[0];
                    if (act[0] < 2) return w[1] == 1 ? act[1] : -4;
                    return w[1] == 1 ? Math.min(act[1], act[2]) : Math.max(act[1], act[2]);
                case "graph":
                    if (!within(w[0], 0, n) || !within(w[1], 0, 3)) return -1;
                    World at = world(row, w[0]);
                    int bits = at.points.stream().mapToInt(p -> 1 << p).sum();
                    return new int[] {bits, at.edges.size(), at.pieces.size(),
                        at.edges.size() - at.points.size() + at.pieces.size()}[w[1]];
                case "piece":
                    if (!within(w[0], 0, n) || !within(w[1], 0, 8)) return -1;
                    World then = world(row, w[0]);
                    return then.points.contains(w[1]) ? then.reach(w[1]).first() : -4;
                case "root":
                    if (!within(w[0], 0, 8)) return -1;
                    return now.points.contains(w[0]) ? now.of(w[0]).root : -4;
                case "kin":
                    if (!within(w[0], 0, 8) || !within(w[1], 0, 8)) return -1;
                    if (!now.points.contains(w[0]) || !now.points.contains(w[1])) return -2;
                    if (now.of(w[0]) == now.of(w[1])) return -2;
                    Integer since = now.since(now.of(w[0]), now.of(w[1]));
                    return since == null ? -4 : since;
                default:
                    if (!within(w[0], 0, 6)) return -1;
                    return new int[] {n, now.points.size(), now.edges.size(), now.pieces.size(),
                        undoable.size(), text.length(), kept.size()}[w[0]];
            }
        }
    }
}
