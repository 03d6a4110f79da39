import java.util.ArrayList;
import java.util.List;
import java.util.Random;

/**
 * Bars against what they mean, without roots or kin: how many last from one graph to another is
 * the rank of the relation between the sums of pieces (over 0 and 1) of both graphs. A row read
 * backwards has the same bars, read backwards.
 */
public final class RanksTest {
    private static final int RUNS = 400;
    private static int checked = 0;
    private static int wrong = 0;

    public static void main(String[] args) {
        for (int run = 0; run < RUNS; run++) {
            checkRow(run);
        }
        System.out.println("RanksTest: " + (checked - wrong) + " passed, " + wrong + " failed");
        if (wrong != 0 || checked == 0) {
            System.exit(1);
        }
    }

    private static void due(int run, String what, int got, int want) {
        checked++;
        if (got != want) {
            wrong++;
            if (wrong < 20) {
                System.out.println("run " + run + ": " + what + " is " + got + ", due " + want);
            }
        }
    }

    private static void checkRow(int run) {
        Random chance = new Random(7000 + run);
        ZigzagPieces x = new ZigzagPieces();
        x.lay();
        int points = 3 + chance.nextInt(7);
        int length = 5 + chance.nextInt(36);
        for (int tries = 0; tries < 400 && x.count(0) < length; tries++) {
            int kind = new int[] {0, 0, 1, 2, 2, 2, 3, 3, 3}[chance.nextInt(9)];
            x.act(kind, chance.nextInt(points), chance.nextInt(points));
        }
        int n = x.count(0);
        for (int i = 0; i <= n; i++) {
            List<Integer> relation = new ArrayList<>();
            for (int p = 0; p < 9; p++) {
                if (x.piece(i, p) == p) {
                    relation.add(1 << p | 1 << (p + 9));
                }
            }
            for (int j = i; j <= n; j++) {
                if (j > i) {
                    relation = step(x, j, relation);
                }
                due(run, "lasting(" + i + ", " + j + ")", x.lasting(i, j), rankOf(relation));
            }
        }
        checkBackwards(run, x);
    }

    /** The relation of graph i and graph j - 1 taken on by act j. */
    private static List<Integer> step(ZigzagPieces x, int j, List<Integer> relation) {
        boolean grows = x.told(j, 0) == 0 || x.told(j, 0) == 2;
        List<Integer> next = new ArrayList<>();
        if (grows) {
            for (int pair : relation) {
                next.add(pair & 511 | mapped(x, j, pair >> 9) << 9);
            }
            return reduced(next, (1 << 18) - 1);
        }
        // three parts: of graph i, of graph j - 1 (which must come out as nothing), of graph j
        for (int pair : relation) {
            next.add(pair);
        }
        for (int p = 0; p < 9; p++) {
            if (x.piece(j, p) == p) {
                next.add(mapped(x, j - 1, 1 << p) << 9 | 1 << (p + 18));
            }
        }
        List<Integer> kernel = new ArrayList<>();
        for (int triple : reduced(next, 511 << 9)) {
            if ((triple >> 9 & 511) == 0) {
                kernel.add(triple & 511 | triple >> 18 << 9);
            }
        }
        return reduced(kernel, (1 << 18) - 1);
    }

    /** A sum of pieces, each by its lowest point, as the sum of pieces of graph k they lie in. */
    private static int mapped(ZigzagPieces x, int k, int sum) {
        int image = 0;
        for (int p = 0; p < 9; p++) {
            if ((sum >> p & 1) != 0) {
                image ^= 1 << x.piece(k, p);
            }
        }
        return image;
    }

    /** Rows whose leading bits within the mask differ; rows that are 0 there stay behind. */
    private static List<Integer> reduced(List<Integer> rows, int mask) {
        List<Integer> left = new ArrayList<>(rows);
        List<Integer> done = new ArrayList<>();
        for (int bit = 26; bit >= 0; bit--) {
            if ((mask >> bit & 1) == 0) {
                continue;
            }
            int lead = -1;
            for (int i = 0; i < left.size() && lead < 0; i++) {
                lead = (left.get(i) >> bit & 1) != 0 ? i : -1;
            }
            if (lead >= 0) {
                int row = left.remove(lead);
                for (int i = 0; i < left.size(); i++) {
                    if ((left.get(i) >> bit & 1) != 0) {
                        left.set(i, left.get(i) ^ row);
                    }
                }
                done.add(row);
            }
        }
        for (int row : left) {
            if (row != 0) {
                done.add(row);
            }
        }
        return done;
    }

    private static int rankOf(List<Integer> relation) {
        List<Integer> first = new ArrayList<>();
        List<Integer> second = new ArrayList<>();
        for (int pair : relation) {
            first.add(pair & 511);
            second.add(pair >> 9);
        }
        return reduced(first, 511).size() + reduced(second, 511).size()
            - reduced(relation, (1 << 18) - 1).size();
    }

    /** Graph g of the row is graph n - g of the row backwards, so a bar [b, e) is [n+1-e, n+1-b). */
    private static void checkBackwards(int run, ZigzagPieces x) {
        if (x.graph(x.count(0), 0) != 0 && x.clear() < 0) {
            return;
        }
        int n = x.count(0);
        int bars = x.bar(-1, 0);
        int[][] before = new int[bars][2];
        for (int i = 0; i < bars; i++) {
            before[i][0] = n + 1 - x.bar(i, 1);
            before[i][1] = n + 1 - x.bar(i, 0);
        }
        java.util.Arrays.sort(before, (p, q) -> p[0] != q[0] ? p[0] - q[0] : p[1] - q[1]);
        due(run, "backwards()", x.backwards(), n);
        due(run, "bar(-1, 0) backwards", x.bar(-1, 0), bars);
        for (int i = 0; i < bars; i++) {
            due(run, "bar(" + i + ", 0) backwards", x.bar(i, 0), before[i][0]);
            due(run, "bar(" + i + ", 1) backwards", x.bar(i, 1), before[i][1]);
        }
    }
}
