import java.util.Arrays;

/**
 * Pieces of a graph that grows and shrinks by a row of acts, and the bars that tell how long
 * these pieces last.
 *
 * <p>All that is asked is told of the row alone: behind each change the row is played anew from
 * nothing on ({@link Story}), so that no answer can lag behind the row.
 */
public final class ZigzagPieces {
    public static final int BAD = -1, NO = -2, FULL = -3, NONE = -4;

    private static final int POINTS = 9;
    private static final int MOST_ACTS = 40;
    private static final int MOST_LETTERS = 200;
    private static final int MOST_UNDONE = 6;
    private static final int MOST_KEPT = 2;
    private static final int LONGEST_LASTING = 41;

    private static final int FIRST_LETTER = 32;
    private static final int LAST_LETTER = 126;

    private static final int POINT_COMES = 0;
    private static final int POINT_GOES = 1;
    private static final int EDGE_COMES = 2;
    private static final int EDGE_GOES = 3;

    /** An act of no kind: it can never be done. */
    private static final int NO_ACT = -1;
    private static final int END_OF_OPEN = 99;

    private static final String FIRST_TEXT =
        "v0;v1;v2;e01;v3;e12;f01;e23;w0;v0;e03;f23;e01;f12;w2;";

    private final Text text = new Text();
    private final Row row = new Row();
    private final Row trial = new Row();
    private final Shelf undoable = new Shelf(MOST_UNDONE);
    private final Shelf kept = new Shelf(MOST_KEPT);
    /** The row's own story, always of the row as it is. */
    private final Story now = new Story();
    /** A story for rows and graphs that are only looked at; every call begins it anew. */
    private final Story aside = new Story();

    public ZigzagPieces() {
        for (int i = 0; i < FIRST_TEXT.length(); i++) {
            text.add(FIRST_TEXT.charAt(i));
        }
        readText();
        layTrial();
        text.empty();
    }

    // ---- told

    public int write(int letter) {
        if (letter < FIRST_LETTER || letter > LAST_LETTER) {
            return BAD;
        }
        if (text.length() >= MOST_LETTERS) {
            return FULL;
        }
        text.add(letter);
        return text.length();
    }

    public int wipe() {
        int was = text.length();
        text.empty();
        return was;
    }

    public int fault() {
        return readText();
    }

    public int lay() {
        if (readText() != NONE) {
            return NO;
        }
        layTrial();
        return row.size();
    }

    public int act(int kind, int a, int b) {
        if (!isKind(kind) || !isPoint(a) || !isPoint(b)) {
            return BAD;
        }
        if (isOfEdge(kind) && a == b) {
            return BAD;
        }
        int act = actOf(kind, a, b);
        if (!now.net.canDo(act)) {
            return NO;
        }
        if (row.size() >= MOST_ACTS) {
            return FULL;
        }
        undoable.put(row);
        row.add(act);
        tellAnew();
        return row.size();
    }

    public int drop() {
        if (row.size() == 0) {
            return NO;
        }
        undoable.put(row);
        row.removeLast();
        tellAnew();
        return row.size();
    }

    public int exchange(int k) {
        if (k < 1 || k >= row.size()) {
            return BAD;
        }
        if (!tryExchange(k)) {
            return NO;
        }
        int others = now.bars.withoutPartnerIn(aside.bars);
        undoable.put(row);
        row.copy(trial);
        tellAnew();
        return others;
    }

    public int backwards() {
        if (now.net.points() != 0) {
            return NO;
        }
        undoable.put(row);
        trial.empty();
        for (int k = row.size(); k >= 1; k--) {
            trial.add(otherWay(row.actAt(k)));
        }
        row.copy(trial);
        tellAnew();
        return row.size();
    }

    public int clear() {
        if (now.net.points() == 0) {
            return NO;
        }
        int came = now.net.edges() + Integer.bitCount(now.net.points());
        if (row.size() + came > MOST_ACTS) {
            return FULL;
        }
        undoable.put(row);
        addEdgesGoing();
        addPointsGoing();
        tellAnew();
        return came;
    }

    public int undo() {
        Row before = undoable.last();
        if (before == null) {
            return NO;
        }
        row.copy(before);
        undoable.removeLast();
        tellAnew();
        return undoable.size();
    }

    public int spelt(int k) {
        if (k < 0) {
            return BAD;
        }
        int place = 0;
        for (int i = 1; i <= row.size(); i++) {
            int act = row.actAt(i);
            int length = itemLength(kindOf(act));
            if (k < place + length) {
                return letterOf(act, k - place);
            }
            place += length;
        }
        return NONE;
    }

    // ---- graphs

    public int told(int k, int what) {
        if (k < 1 || k > row.size() || what < 0 || what > 2) {
            return BAD;
        }
        int act = row.actAt(k);
        if (what == 0) {
            return kindOf(act);
        }
        if (what == 1) {
            return lowOf(act);
        }
        return isOfEdge(kindOf(act)) ? highOf(act) : NONE;
    }

    public int graph(int k, int what) {
        if (k < 0 || k > row.size() || what < 0 || what > 3) {
            return BAD;
        }
        aside.play(row, k);
        switch (what) {
            case 0:
                return aside.net.points();
            case 1:
                return aside.net.edges();
            case 2:
                return aside.net.pieces();
            default:
                return aside.net.loops();
        }
    }

    public int piece(int k, int point) {
        if (k < 0 || k > row.size() || !isPoint(point)) {
            return BAD;
        }
        aside.play(row, k);
        if (!aside.net.has(point)) {
            return NONE;
        }
        return lowestOf(aside.net.pieceOf(point));
    }

    public int root(int point) {
        if (!isPoint(point)) {
            return BAD;
        }
        return now.net.has(point) ? now.kinship.rootOf(point) : NONE;
    }

    public int kin(int a, int b) {
        if (!isPoint(a) || !isPoint(b)) {
            return BAD;
        }
        if (!now.net.has(a) || !now.net.has(b) || isIn(now.net.pieceOf(a), b)) {
            return NO;
        }
        int since = now.kinship.sinceOf(a, b);
        return since > 0 ? since : NONE;
    }

    // ---- bars

    public int bar(int i, int what) {
        if (i < -3 || what < 0 || what > 2) {
            return BAD;
        }
        if (i == -1) {
            return now.bars.size();
        }
        if (i == -2) {
            return now.bars.open();
        }
        if (i == -3) {
            return now.bars.size() - now.bars.open();
        }
        if (i >= now.bars.size()) {
            return NONE;
        }
        if (what == 0) {
            return now.bars.beginOf(i);
        }
        return what == 1 ? now.bars.endOf(i) : now.bars.lengthOf(i, row.size());
    }

    public int lasting(int i, int j) {
        if (i < 0 || j > row.size() || i > j) {
            return BAD;
        }
        return now.bars.spanning(i, j, row.size());
    }

    public int longer(int m) {
        if (m < 1 || m > LONGEST_LASTING) {
            return BAD;
        }
        return now.bars.atLeast(m, row.size());
    }

    public int steadiest(int what) {
        if (what < 0 || what > 1) {
            return BAD;
        }
        int best = NONE;
        int longest = NONE;
        for (int k = 1; k < row.size(); k++) {
            if (tryExchange(k)) {
                int length = aside.bars.longest(row.size());
                if (length > longest) {
                    longest = length;
                    best = k;
                }
            }
        }
        return what == 0 ? best : longest;
    }

    // ---- kept

    public int keep() {
        if (kept.size() >= MOST_KEPT) {
            return FULL;
        }
        kept.put(row);
        return kept.size();
    }

    public int other() {
        Row last = kept.last();
        if (last == null) {
            return NO;
        }
        aside.play(last, last.size());
        return now.bars.withoutPartnerIn(aside.bars);
    }

    public int back() {
        Row last = kept.last();
        if (last == null) {
            return NO;
        }
        row.copy(last);
        kept.removeLast();
        undoable.empty();
        tellAnew();
        return kept.size();
    }

    public int count(int what) {
        switch (what) {
            case 0:
                return row.size();
            case 1:
                return Integer.bitCount(now.net.points());
            case 2:
                return now.net.edges();
            case 3:
                return now.net.pieces();
            case 4:
                return undoable.size();
            case 5:
                return text.length();
            case 6:
                return kept.size();
            default:
                return BAD;
        }
    }

    // ---- what the calls share

    /** Reads the text's acts into the trial row; answers the fault's place, or NONE. */
    private int readText() {
        Net net = aside.net;
        net.empty();
        trial.empty();
        int place = 0;
        for (int item = 0; item <= MOST_LETTERS && place < text.length(); item++) {
            int act = text.actAt(place);
            if (trial.size() >= MOST_ACTS || !net.canDo(act)) {
                return place;
            }
            net.change(act);
            trial.add(act);
            place += itemLength(kindOf(act));
        }
        return NONE;
    }

    private void layTrial() {
        row.copy(trial);
        undoable.empty();
        tellAnew();
    }

    private void tellAnew() {
        now.play(row, row.size());
    }

    /** Makes the trial row the row with k and k + 1 exchanged; aside has its story if it can be. */
    private boolean tryExchange(int k) {
        trial.copy(row);
        trial.swapWithNext(k);
        return aside.play(trial, trial.size());
    }

    private void addEdgesGoing() {
        for (int a = 0; a < POINTS; a++) {
            for (int b = a + 1; b < POINTS; b++) {
                if (now.net.joined(a, b)) {
                    row.add(actOf(EDGE_GOES, a, b));
                }
            }
        }
    }

    private void addPointsGoing() {
        for (int point = 0; point < POINTS; point++) {
            if (now.net.has(point)) {
                row.add(actOf(POINT_GOES, point, point));
            }
        }
    }

    // ---- acts, each one number: its kind, its lower point, its higher point

    private static int actOf(int kind, int a, int b) {
        int other = isOfEdge(kind) ? b : a;
        return kind << 8 | Math.min(a, other) << 4 | Math.max(a, other);
    }

    private static int kindOf(int act) {
        return act >> 8;
    }

    private static int lowOf(int act) {
        return act >> 4 & 15;
    }

    private static int highOf(int act) {
        return act & 15;
    }

    private static int otherWay(int act) {
        return actOf(kindOf(act) ^ 1, lowOf(act), highOf(act));
    }

    private static boolean isKind(int kind) {
        return kind >= POINT_COMES && kind <= EDGE_GOES;
    }

    private static boolean isOfEdge(int kind) {
        return kind == EDGE_COMES || kind == EDGE_GOES;
    }

    // ---- items, by which acts are spelt

    private static int itemLength(int kind) {
        return isOfEdge(kind) ? 4 : 3;
    }

    private static int kindOfLetter(int letter) {
        switch (letter) {
            case 'v':
                return POINT_COMES;
            case 'w':
                return POINT_GOES;
            case 'e':
                return EDGE_COMES;
            case 'f':
                return EDGE_GOES;
            default:
                return NO_ACT;
        }
    }

    private static int letterOfKind(int kind) {
        switch (kind) {
            case POINT_COMES:
                return 'v';
            case POINT_GOES:
                return 'w';
            case EDGE_COMES:
                return 'e';
            default:
                return 'f';
        }
    }

    private static int letterOf(int act, int place) {
        int kind = kindOf(act);
        if (place == 0) {
            return letterOfKind(kind);
        }
        if (place == itemLength(kind) - 1) {
            return ';';
        }
        return '0' + (place == 1 ? lowOf(act) : highOf(act));
    }

    // ---- points, and sets of them as bits

    private static boolean isPoint(int point) {
        return point >= 0 && point < POINTS;
    }

    private static boolean isIn(int points, int point) {
        return (points >> point & 1) != 0;
    }

    private static int lowestOf(int points) {
        return Integer.numberOfTrailingZeros(points);
    }

    /** The letters that have been written. */
    private static final class Text {
        private final int[] letters = new int[MOST_LETTERS];
        private int length;

        int length() {
            return length;
        }

        void empty() {
            length = 0;
        }

        void add(int letter) {
            if (length >= 0 && length < letters.length) {
                letters[length] = letter;
                length++;
            }
        }

        /** The act of the item that begins at a place; NO_ACT if there is no such item. */
        int actAt(int place) {
            int kind = kindOfLetter(letterAt(place));
            if (!isKind(kind)) {
                return NO_ACT;
            }
            int a = letterAt(place + 1) - '0';
            int b = isOfEdge(kind) ? letterAt(place + 2) - '0' : a;
            boolean ended = letterAt(place + itemLength(kind) - 1) == ';';
            return ended && isPoint(a) && isPoint(b) ? actOf(kind, a, b) : NO_ACT;
        }

        /** Behind the last letter there is a 0, which no item has. */
        private int letterAt(int place) {
            return place >= 0 && place < length && place < letters.length ? letters[place] : 0;
        }
    }

    /** Acts one behind the other, numbered from 1 on. */
    private static final class Row {
        private final int[] acts = new int[MOST_ACTS];
        private int size;

        int size() {
            return size;
        }

        void empty() {
            size = 0;
        }

        void add(int act) {
            if (size >= 0 && size < acts.length) {
                acts[size] = act;
                size++;
            }
        }

        void removeLast() {
            if (size > 0) {
                size--;
            }
        }

        int actAt(int k) {
            return k >= 1 && k <= size && k <= acts.length ? acts[k - 1] : NO_ACT;
        }

        void swapWithNext(int k) {
            if (k >= 1 && k < size && k < acts.length) {
                int first = acts[k - 1];
                acts[k - 1] = acts[k];
                acts[k] = first;
            }
        }

        void copy(Row from) {
            empty();
            for (int k = 1; k <= from.size; k++) {
                add(from.actAt(k));
            }
        }
    }

    /** Rows put by, the latest on top; the oldest is lost for one too many. */
    private static final class Shelf {
        private final Row[] rows;
        private int size;

        Shelf(int most) {
            rows = new Row[Math.max(most, 1)];
            for (int i = 0; i < rows.length; i++) {
                rows[i] = new Row();
            }
        }

        int size() {
            return size;
        }

        void empty() {
            size = 0;
        }

        void put(Row row) {
            if (size >= rows.length) {
                loseOldest();
            }
            size++;
            Row free = last();
            if (free != null) {
                free.copy(row);
            }
        }

        Row last() {
            return size >= 1 && size <= rows.length ? rows[size - 1] : null;
        }

        void removeLast() {
            if (size > 0) {
                size--;
            }
        }

        /** The oldest one's place is used again, so that no row is ever made anew. */
        private void loseOldest() {
            Row oldest = rows[0];
            for (int i = 1; i < rows.length; i++) {
                rows[i - 1] = rows[i];
            }
            rows[rows.length - 1] = oldest;
            size = rows.length - 1;
        }
    }

    /** Points and edges that are there. */
    private static final class Net {
        private final int[] near = new int[POINTS];
        private int points;
        private int edges;

        void empty() {
            Arrays.fill(near, 0);
            points = 0;
            edges = 0;
        }

        int points() {
            return points;
        }

        int edges() {
            return edges;
        }

        boolean has(int point) {
            return isPoint(point) && isIn(points, point);
        }

        boolean joined(int a, int b) {
            return isPoint(b) && isIn(nearOf(a), b);
        }

        boolean canDo(int act) {
            int a = lowOf(act);
            int b = highOf(act);
            if (!isPoint(a) || !isPoint(b)) {
                return false;
            }
            switch (kindOf(act)) {
                case POINT_COMES:
                    return !has(a);
                case POINT_GOES:
                    return has(a) && nearOf(a) == 0;
                case EDGE_COMES:
                    return a != b && has(a) && has(b) && !joined(a, b);
                case EDGE_GOES:
                    return joined(a, b);
                default:
                    return false;
            }
        }

        /** Does an act that can be done: each one turns a point or an edge into its contrary. */
        void change(int act) {
            int a = lowOf(act);
            int b = highOf(act);
            if (!isPoint(a) || !isPoint(b)) {
                return;
            }
            if (!isOfEdge(kindOf(act))) {
                points ^= 1 << a;
                return;
            }
            edges += joined(a, b) ? -1 : 1;
            near[a] ^= 1 << b;
            near[b] ^= 1 << a;
        }

        /** The points that hang together with a point, as bits. */
        int pieceOf(int point) {
            if (!has(point)) {
                return 0;
            }
            int piece = 0;
            int ahead = 1 << point;
            for (int steps = 0; steps < POINTS && ahead != 0; steps++) {
                int p = lowestOf(ahead);
                piece |= 1 << p;
                ahead = (ahead | nearOf(p)) & ~piece;
            }
            return piece;
        }

        int pieces() {
            int found = 0;
            int seen = 0;
            for (int point = 0; point < POINTS; point++) {
                if (has(point) && !isIn(seen, point)) {
                    seen |= pieceOf(point);
                    found++;
                }
            }
            return found;
        }

        int loops() {
            return edges - Integer.bitCount(points) + pieces();
        }

        private int nearOf(int point) {
            return isPoint(point) ? near[point] : 0;
        }
    }

    /**
     * Roots and kin of the pieces, told by each of their points: all points of a piece tell the
     * same of every other piece, so pieces need no names that would change as they part and join.
     * Points of one piece, and points that are not kin, are so since 0.
     */
    private static final class Kinship {
        private final int[] roots = new int[POINTS];
        private final int[] since = new int[POINTS * POINTS];
        /** Two rows for a joining, which must look at numbers that it changes. */
        private final int[] withFirst = new int[POINTS];
        private final int[] withSecond = new int[POINTS];

        void empty() {
            Arrays.fill(roots, 0);
            Arrays.fill(since, 0);
        }

        int rootOf(int point) {
            return isPoint(point) ? roots[point] : 0;
        }

        int sinceOf(int a, int b) {
            return isPoint(a) && isPoint(b) ? since[a * POINTS + b] : 0;
        }

        void come(int point, int k) {
            if (isPoint(point)) {
                roots[point] = k;
            }
        }

        void go(int point) {
            for (int p = 0; p < POINTS; p++) {
                setSince(p, point, 0);
            }
            if (isPoint(point)) {
                roots[point] = 0;
            }
        }

        void part(int first, int second, int k) {
            for (int p = 0; p < POINTS; p++) {
                if (isIn(first, p)) {
                    setSinceOfAll(p, second, k);
                }
            }
        }

        /** Where the bar begins that ends when a point's piece goes and only the others stay. */
        int beginOfGoing(int point, int others) {
            int greatest = 0;
            for (int p = 0; p < POINTS; p++) {
                if (isIn(others, p)) {
                    greatest = Math.max(greatest, sinceOf(point, p));
                }
            }
            return greatest > 0 ? greatest : rootOf(point);
        }

        /** Where the bar begins that ends when the pieces of a and b join. */
        int beginOfJoining(int a, int b) {
            int met = sinceOf(a, b);
            return met > 0 ? met : Math.max(rootOf(a), rootOf(b));
        }

        /**
         * Joins the pieces of a and b, whose points the joined piece has together. Pieces that are
         * not kin follow the rule of those that are, as if they were since 0: a number that is 0
         * is never the greater one, and each number of kin is more than 0.
         */
        void join(int a, int b, int joined) {
            int met = sinceOf(a, b);
            for (int p = 0; p < POINTS; p++) {
                withFirst[p] = isIn(joined, p) ? 0 : sinceOf(a, p);
                withSecond[p] = isIn(joined, p) ? 0 : sinceOf(b, p);
            }
            if (met == 0) {
                lowerRoots(Math.min(rootOf(a), rootOf(b)), joined);
            }
            for (int p = 0; p < POINTS; p++) {
                setSinceOfAll(p, joined, Math.max(withFirst[p], withSecond[p]));
                for (int q = 0; q < POINTS && withFirst[p] > met; q++) {
                    if (withSecond[q] > met) {
                        setSince(p, q, Math.min(withFirst[p], withSecond[q]));
                    }
                }
            }
        }

        private void lowerRoots(int root, int joined) {
            for (int p = 0; p < POINTS; p++) {
                if (isIn(joined, p) || withFirst[p] > 0 || withSecond[p] > 0) {
                    roots[p] = root;
                }
            }
        }

        private void setSinceOfAll(int a, int others, int k) {
            for (int q = 0; q < POINTS && isPoint(a); q++) {
                if (isIn(others, q)) {
                    since[a * POINTS + q] = k;
                    since[q * POINTS + a] = k;
                }
            }
        }

        private void setSince(int a, int b, int k) {
            if (isPoint(a) && isPoint(b)) {
                since[a * POINTS + b] = k;
                since[b * POINTS + a] = k;
            }
        }
    }

    /** Bars in their order: by begin, then by end. */
    private static final class Bars {
        private final int[] begins = new int[MOST_ACTS];
        private final int[] ends = new int[MOST_ACTS];
        private int size;
        private int open;

        void empty() {
            size = 0;
            open = 0;
        }

        int size() {
            return size;
        }

        int open() {
            return open;
        }

        /** There is room for all: each act begins one bar at most. */
        void add(int begin, int end) {
            if (size < 0 || size >= begins.length || size >= ends.length) {
                return;
            }
            int place = size;
            while (place > 0 && compare(place - 1, begin, end) > 0) {
                begins[place] = begins[place - 1];
                ends[place] = ends[place - 1];
                place--;
            }
            begins[place] = begin;
            ends[place] = end;
            size++;
            if (end == END_OF_OPEN) {
                open++;
            }
        }

        int beginOf(int i) {
            return i >= 0 && i < size && i < begins.length ? begins[i] : NONE;
        }

        int endOf(int i) {
            return i >= 0 && i < size && i < ends.length ? ends[i] : NONE;
        }

        /** In how many graphs a bar lasts, the last of which is that behind so many acts. */
        int lengthOf(int i, int acts) {
            return lastOf(i, acts) + 1 - beginOf(i);
        }

        int longest(int acts) {
            int longest = 0;
            for (int i = 0; i < size; i++) {
                longest = Math.max(longest, lengthOf(i, acts));
            }
            return longest;
        }

        int atLeast(int length, int acts) {
            int found = 0;
            for (int i = 0; i < size; i++) {
                if (lengthOf(i, acts) >= length) {
                    found++;
                }
            }
            return found;
        }

        int spanning(int first, int last, int acts) {
            int found = 0;
            for (int i = 0; i < size; i++) {
                if (beginOf(i) <= first && lastOf(i, acts) >= last) {
                    found++;
                }
            }
            return found;
        }

        /** How many bars there are more than can be paired with like ones of the second. */
        int withoutPartnerIn(Bars second) {
            int paired = 0;
            int i = 0;
            int j = 0;
            while (i < size && j < second.size) {
                int order = compare(i, second.beginOf(j), second.endOf(j));
                if (order == 0) {
                    paired++;
                }
                if (order <= 0) {
                    i++;
                }
                if (order >= 0) {
                    j++;
                }
            }
            return size - paired;
        }

        private int lastOf(int i, int acts) {
            int end = endOf(i);
            return end == END_OF_OPEN ? acts : end - 1;
        }

        private int compare(int i, int begin, int end) {
            int order = Integer.compare(beginOf(i), begin);
            return order != 0 ? order : Integer.compare(endOf(i), end);
        }
    }

    /** A row played from nothing on: its last graph, the pieces' kin there, and all its bars. */
    private static final class Story {
        private final Net net = new Net();
        private final Kinship kinship = new Kinship();
        private final Bars bars = new Bars();

        /** Plays the first acts of a row; answers whether they can be done. */
        boolean play(Row row, int acts) {
            net.empty();
            kinship.empty();
            bars.empty();
            for (int k = 1; k <= acts && k <= MOST_ACTS; k++) {
                int act = row.actAt(k);
                if (!net.canDo(act)) {
                    return false;
                }
                step(act, k);
            }
            addOpenBars();
            return true;
        }

        private void step(int act, int k) {
            int a = lowOf(act);
            int b = highOf(act);
            boolean wereOne = isIn(net.pieceOf(a), b);
            net.change(act);
            boolean areOne = isIn(net.pieceOf(a), b);
            switch (kindOf(act)) {
                case POINT_COMES:
                    kinship.come(a, k);
                    break;
                case POINT_GOES:
                    bars.add(kinship.beginOfGoing(a, net.points()), k);
                    kinship.go(a);
                    break;
                case EDGE_COMES:
                    if (!wereOne) {
                        bars.add(kinship.beginOfJoining(a, b), k);
                        kinship.join(a, b, net.pieceOf(a));
                    }
                    break;
                default:
                    if (!areOne) {
                        kinship.part(net.pieceOf(a), net.pieceOf(b), k);
                    }
                    break;
            }
        }

        /** All pieces go one behind the other, but only in thought: nothing is changed by it. */
        private void addOpenBars() {
            int left = net.points();
            for (int point = 0; point < POINTS; point++) {
                if (isIn(left, point)) {
                    left &= ~net.pieceOf(point);
                    bars.add(kinship.beginOfGoing(point, left), END_OF_OPEN);
                }
            }
        }
    }
}
