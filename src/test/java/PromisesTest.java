/** Each promise of the document by itself: ordinary calls, edges, wrong calls; due by hand. */
public final class PromisesTest {
    private static final int BAD = -1;
    private static final int NO = -2;
    private static final int FULL = -3;
    private static final int NONE = -4;
    private static final String FIRST = "v0;v1;v2;e01;v3;e12;f01;e23;w0;v0;e03;f23;e01;f12;w2;";

    private static int promise = 0;
    private static int passed = 0;
    private static int failed = 0;

    public static void main(String[] args) {
        promise = 1; newObject();
        promise = 2; write();
        promise = 3; wipe();
        promise = 4; fault(); fortyFirst();
        promise = 5; lay();
        promise = 6; act(); actRefused(); actFull();
        promise = 7; drop();
        promise = 8; exchange(); exchangeRefused();
        promise = 9; backwards();
        promise = 10; clear(); clearFull();
        promise = 11; undo(); undoEachChange(); undoNothing();
        promise = 12; spelt();
        promise = 13; told();
        promise = 14; graph();
        promise = 15; piece();
        promise = 16; root();
        promise = 17; kin(); kinJoined();
        promise = 18; bar(); barRefused();
        promise = 19; lasting();
        promise = 20; longer();
        promise = 21; steadiest();
        promise = 22; keep();
        promise = 23; other();
        promise = 24; back();
        promise = 25; count();
        promise = 0; wildNumbers();
        System.out.println("PromisesTest: " + passed + " passed, " + failed + " failed");
        if (failed != 0 || passed == 0) {
            System.exit(1);
        }
    }

    // ---- helpers

    private static void due(String what, int got, int want) {
        due(what, String.valueOf(got), String.valueOf(want));
    }

    private static void due(String what, String got, String want) {
        if (got.equals(want)) {
            passed++;
        } else {
            failed++;
            System.out.println("promise " + promise + ": " + what + " answered " + got
                + ", due is " + want);
        }
    }

    private static void type(ZigzagPieces x, String text) {
        x.wipe();
        for (int i = 0; i < text.length(); i++) {
            x.write(text.charAt(i));
        }
    }

    private static ZigzagPieces laid(String text) {
        ZigzagPieces x = new ZigzagPieces();
        type(x, text);
        due("lay of " + text, x.lay(), text.length() - text.replace(";", "").length());
        return x;
    }

    private static String row(ZigzagPieces x) {
        StringBuilder all = new StringBuilder();
        for (int k = 0; x.spelt(k) >= 0; k++) {
            all.append((char) x.spelt(k));
        }
        return all.toString();
    }

    private static String bars(ZigzagPieces x) {
        StringBuilder all = new StringBuilder();
        for (int i = 0; i < x.bar(-1, 0); i++) {
            all.append(x.bar(i, 0)).append('-').append(x.bar(i, 1)).append(' ');
        }
        return all.toString().trim();
    }

    private static String counts(ZigzagPieces x) {
        StringBuilder all = new StringBuilder();
        for (int what = 0; what <= 6; what++) {
            all.append(x.count(what)).append(' ');
        }
        return all.toString().trim();
    }

    private static String times(int times, String text) {
        return text.repeat(times);
    }

    // ---- promises

    private static void newObject() {
        ZigzagPieces x = new ZigzagPieces();
        due("row", row(x), FIRST);
        due("counts", counts(x), "15 3 2 1 0 0 0");
        due("bars", bars(x), "1-99 2-4 3-6 5-8 7-9 10-11 12-13 14-15");
        due("fault()", x.fault(), NONE);
        due("undo()", x.undo(), NO);
        due("other()", x.other(), NO);
        due("back()", x.back(), NO);
        due("wipe()", x.wipe(), 0);
        due("row of another object", row(new ZigzagPieces()), FIRST);
        ZigzagPieces one = new ZigzagPieces();
        one.drop();
        due("objects are apart", x.count(0), 15);
    }

    private static void write() {
        ZigzagPieces x = new ZigzagPieces();
        due("write(31)", x.write(31), BAD);
        due("write(127)", x.write(127), BAD);
        due("write(-1)", x.write(-1), BAD);
        due("write(32 + 256)", x.write(32 + 256), BAD);
        due("none came", x.count(5), 0);
        due("write(32)", x.write(32), 1);
        due("write(126)", x.write(126), 2);
        for (int i = 3; i <= 200; i++) {
            due("write", x.write('v'), i);
        }
        due("the 201st", x.write('v'), FULL);
        due("BAD ahead of FULL", x.write(0), BAD);
        due("count(5)", x.count(5), 200);
        due("the row stays", row(x), FIRST);
        due("order of letters", laid("v3;v1;e31;").count(5), 10);
    }

    private static void wipe() {
        ZigzagPieces x = new ZigzagPieces();
        due("wipe()", x.wipe(), 0);
        type(x, "v0;x");
        due("wipe()", x.wipe(), 4);
        due("wipe()", x.wipe(), 0);
        due("fault()", x.fault(), NONE);
        due("the row stays", row(x), FIRST);
        due("write('v')", x.write('v'), 1);
        type(x, times(200, "v"));
        due("wipe()", x.wipe(), 200);
        due("write('v')", x.write('v'), 1);
    }

    private static void faultOf(String text, int want) {
        ZigzagPieces x = new ZigzagPieces();
        type(x, text);
        due("fault() of " + text, x.fault(), want);
        due("the text stays", x.count(5), text.length());
        due("the row stays", x.count(0), 15);
    }

    private static void fault() {
        faultOf("", NONE);
        faultOf(FIRST, NONE);
        faultOf("v0;", NONE);
        faultOf("v8;w8;v8;", NONE);
        faultOf("v0;v1;e10;f01;w0;w1;", NONE);
        faultOf("v0", 0);
        faultOf("v", 0);
        faultOf(";", 0);
        faultOf("v9;", 0);
        faultOf("v/;", 0);
        faultOf("v;", 0);
        faultOf("V0;", 0);
        faultOf("x0;", 0);
        faultOf("0v;", 0);
        faultOf(" v0;", 0);
        faultOf("v0,", 0);
        faultOf("v00;", 0);
        faultOf("w0;", 0);
        faultOf("v0; v1;", 3);
        faultOf("v0;;v1;", 3);
        faultOf("v0;v0;", 3);
        faultOf("v0;e00;", 3);
        faultOf("v0;e01;", 3);
        faultOf("v1;e01;", 3);
        faultOf("v0;x;v0;w3;", 3);
        faultOf("v0;v1;f01;", 6);
        faultOf("v0;v1;e0;", 6);
        faultOf("v0;v1;e09;", 6);
        faultOf("v0;v1;e90;", 6);
        faultOf("v0;v1;e01", 6);
        faultOf("v0;v1;e011;", 6);
        faultOf("v0;w0;w0;", 6);
        faultOf("v0;w0;x", 6);
        faultOf("v0;v1;e01;e10;", 10);
        faultOf("v0;v1;e01;w0;", 10);
        faultOf("v0;v1;e01;w1;", 10);
        faultOf("v0;v1;e01;f01;f10;", 14);
        faultOf(times(200, ";"), 0);
    }

    private static void fortyFirst() {
        faultOf(times(20, "v0;w0;"), NONE);
        faultOf(times(20, "v0;w0;") + "v0;", 120);
        faultOf(times(20, "v0;w0;") + "x", 120);
        faultOf(times(20, "v0;w0;") + "v0;x", 120);
        faultOf("v0;v1;" + times(19, "e01;f01;"), NONE);
        faultOf("v0;v1;" + times(19, "e01;f01;") + "e01;", 158);
        faultOf(times(33, "v0;w0;") + "v0", 120);
    }

    private static void lay() {
        ZigzagPieces x = new ZigzagPieces();
        x.keep();
        x.drop();
        type(x, "v4;v4;");
        String before = row(x);
        due("lay() with a fault", x.lay(), NO);
        due("the row stays", row(x), before);
        due("changes can be undone still", x.count(4), 1);
        type(x, "v4;v2;e42;");
        due("lay()", x.lay(), 3);
        due("row", row(x), "v4;v2;e24;");
        due("counts", counts(x), "3 2 1 1 0 10 1");
        due("undo()", x.undo(), NO);
        x.drop();
        due("lay() again", x.lay(), 3);
        due("undo()", x.undo(), NO);
        due("bars", bars(x), "1-99 2-3");
        x.wipe();
        due("lay() of nothing", x.lay(), 0);
        due("row", row(x), "");
        due("counts", counts(x), "0 0 0 0 0 0 1");
        due("40 acts", laid(times(20, "v0;w0;")).count(0), 40);
        type(x, times(20, "v0;w0;") + "v0;");
        due("41 acts", x.lay(), NO);
    }

    private static void act() {
        ZigzagPieces x = laid("");
        due("act(0, 8, 0)", x.act(0, 8, 0), 1);
        due("act(0, 0, 8)", x.act(0, 0, 8), 2);
        due("act(0, 3, 3)", x.act(0, 3, 3), 3);
        due("act(2, 8, 0)", x.act(2, 8, 0), 4);
        due("act(2, 3, 8)", x.act(2, 3, 8), 5);
        due("act(3, 0, 8)", x.act(3, 0, 8), 6);
        due("act(1, 0, 5)", x.act(1, 0, 5), 7);
        due("row", row(x), "v8;v0;v3;e08;e38;f08;w0;");
        due("counts", counts(x), "7 2 1 1 6 0 0");
    }

    private static void actRefused() {
        ZigzagPieces x = laid("v0;v1;v2;e01;");
        int[][] bad = {{-1, 3, 3}, {4, 3, 3}, {0, -1, 0}, {0, 9, 0}, {0, 3, -1}, {0, 3, 9},
            {1, 2, 9}, {1, 9, 2}, {2, 1, 1}, {3, 1, 1}, {2, 5, 5}, {3, 9, 0}, {2, 0, 9}};
        for (int[] w : bad) {
            due("act(" + w[0] + ", " + w[1] + ", " + w[2] + ")", x.act(w[0], w[1], w[2]), BAD);
        }
        int[][] not = {{0, 0, 0}, {0, 1, 8}, {1, 0, 0}, {1, 1, 1}, {1, 3, 3}, {2, 0, 1}, {2, 1, 0},
            {2, 0, 3}, {2, 3, 0}, {2, 7, 8}, {3, 0, 2}, {3, 2, 1}, {3, 0, 3}, {3, 7, 8}};
        for (int[] w : not) {
            due("act(" + w[0] + ", " + w[1] + ", " + w[2] + ")", x.act(w[0], w[1], w[2]), NO);
        }
        due("row", row(x), "v0;v1;v2;e01;");
        due("nothing to be undone", x.count(4), 0);
        due("act(2, 2, 1)", x.act(2, 2, 1), 5);
    }

    private static void actFull() {
        ZigzagPieces x = laid(times(19, "v0;w0;") + "v0;");
        due("the 40th", x.act(0, 1, 0), 40);
        due("the 41st", x.act(2, 0, 1), FULL);
        due("NO ahead of FULL", x.act(3, 0, 1), NO);
        due("BAD ahead of FULL", x.act(2, 1, 1), BAD);
        due("counts", counts(x), "40 2 0 2 1 117 0");
        due("drop()", x.drop(), 39);
        due("the 40th again", x.act(1, 0, 0), 40);
    }

    private static void drop() {
        ZigzagPieces x = laid("v0;v1;e01;");
        due("drop()", x.drop(), 2);
        due("row", row(x), "v0;v1;");
        due("bars", bars(x), "1-99 2-99");
        due("drop()", x.drop(), 1);
        due("drop()", x.drop(), 0);
        due("drop() of none", x.drop(), NO);
        due("counts", counts(x), "0 0 0 0 3 10 0");
    }

    private static void exchange() {
        ZigzagPieces x = laid("v0;v1;e01;");
        due("exchange(1)", x.exchange(1), 0);
        due("row", row(x), "v1;v0;e01;");
        due("exchange(2)", x.exchange(2), NO);
        x = laid("v0;v1;v2;e01;e12;");
        due("bars", bars(x), "1-99 2-4 3-5");
        due("exchange(4)", x.exchange(4), 2);
        due("bars", bars(x), "1-99 2-5 3-4");
        due("row", row(x), "v0;v1;v2;e12;e01;");
        due("count(4)", x.count(4), 1);
        due("exchange(4) back", x.exchange(4), 2);
        due("bars", bars(x), "1-99 2-4 3-5");
        x = laid("v0;v1;w0;");
        due("exchange(2)", x.exchange(2), 2);
        due("row", row(x), "v0;w0;v1;");
        due("bars", bars(x), "1-2 3-99");
        // of the row that was, whichever of both has more bars
        x = laid("v0;v1;v2;e01;e12;e02;f01;");
        due("bars", bars(x), "1-99 2-4 3-5");
        due("exchange(6)", x.exchange(6), 0);
        due("bars", bars(x), "1-99 2-4 3-5 6-7");
        due("exchange(6) back", x.exchange(6), 1);
        x = laid("v0;v1;e01;v2;f01;e01;");
        due("bars", bars(x), "1-99 2-3 4-99 5-6");
        due("exchange(4)", x.exchange(4), 2);
        due("bars", bars(x), "1-99 2-3 4-6 5-99");
        due("exchange(5)", x.exchange(5), 2);
        due("bars", bars(x), "1-99 2-3 4-5 6-99");
    }

    private static void exchangeRefused() {
        ZigzagPieces x = laid("v0;v1;e01;f01;w0;v0;");
        due("exchange(0)", x.exchange(0), BAD);
        due("exchange(-1)", x.exchange(-1), BAD);
        due("exchange(6)", x.exchange(6), BAD);
        due("a point ahead of its edge", x.exchange(2), NO);
        due("an edge comes and goes", x.exchange(3), NO);
        due("an edge goes, its point goes", x.exchange(4), NO);
        due("a point goes and comes", x.exchange(5), NO);
        due("row", row(x), "v0;v1;e01;f01;w0;v0;");
        due("count(4)", x.count(4), 0);
        due("exchange(1) of one act", laid("v0;").exchange(1), BAD);
        due("exchange(1) of none", laid("").exchange(1), BAD);
        due("exchange(0) of none", laid("").exchange(0), BAD);
    }

    private static void backwards() {
        ZigzagPieces x = laid("v0;v1;e10;f01;w0;v2;w1;w2;");
        due("backwards()", x.backwards(), 8);
        due("row", row(x), "v2;v1;w2;v0;e01;f01;w1;w0;");
        due("bars", bars(x), "1-3 2-8 4-5 6-7");
        due("backwards()", x.backwards(), 8);
        due("row", row(x), "v0;v1;e01;f01;w0;v2;w1;w2;");
        due("count(4)", x.count(4), 2);
        x = laid("v0;");
        due("backwards() of something", x.backwards(), NO);
        due("row", row(x), "v0;");
        due("count(4)", x.count(4), 0);
        x = laid("");
        due("backwards() of nothing", x.backwards(), 0);
        due("count(4)", x.count(4), 1);
    }

    private static void clear() {
        ZigzagPieces x = laid("v2;v0;v1;e21;e20;e01;");
        due("clear()", x.clear(), 6);
        due("row", row(x), "v2;v0;v1;e12;e02;e01;f01;f02;f12;w0;w1;w2;");
        due("counts", counts(x), "12 0 0 0 1 21 0");
        due("clear() of nothing", x.clear(), NO);
        due("undo()", x.undo(), 0);
        due("row", row(x), "v2;v0;v1;e12;e02;e01;");
        due("clear() of no act", laid("").clear(), NO);
        x = laid("v8;");
        due("clear()", x.clear(), 1);
        due("row", row(x), "v8;w8;");
    }

    private static void clearFull() {
        ZigzagPieces x = laid(times(18, "v0;w0;") + "v0;v1;e01;");
        due("clear() to 42", x.clear(), FULL);
        due("counts", counts(x), "39 2 1 1 0 118 0");
        x.drop();
        due("clear() to 40", x.clear(), 2);
        due("count(0)", x.count(0), 40);
        due("NO ahead of FULL", x.clear(), NO);
        x = laid(times(19, "v0;w0;") + "v0;");
        due("clear() to 40", x.clear(), 1);
        x = laid(times(18, "v0;w0;") + "v0;v1;v2;");
        due("clear() to 42", x.clear(), FULL);
    }

    private static void undo() {
        ZigzagPieces x = laid("");
        due("undo()", x.undo(), NO);
        for (int point = 0; point < 8; point++) {
            x.act(0, point, 0);
        }
        due("count(4)", x.count(4), 6);
        for (int left = 5; left >= 0; left--) {
            due("undo()", x.undo(), left);
            due("count(0)", x.count(0), left + 2);
        }
        due("undo()", x.undo(), NO);
        due("row", row(x), "v0;v1;");
        x.act(0, 5, 0);
        x.act(0, 6, 0);
        due("undo()", x.undo(), 1);
        x.act(0, 7, 0);
        due("undo()", x.undo(), 1);
        due("row", row(x), "v0;v1;v5;");
        due("undo()", x.undo(), 0);
        due("row", row(x), "v0;v1;");
    }

    private static void undoEachChange() {
        ZigzagPieces x = laid("v0;v1;");
        x.act(2, 0, 1);
        x.exchange(1);
        x.drop();
        x.clear();
        x.backwards();
        due("row", row(x), "v1;v0;w0;w1;");
        due("undo()", x.undo(), 4);
        due("row", row(x), "v1;v0;w0;w1;");
        due("undo()", x.undo(), 3);
        due("row", row(x), "v1;v0;");
        due("undo()", x.undo(), 2);
        due("row", row(x), "v1;v0;e01;");
        due("undo()", x.undo(), 1);
        due("row", row(x), "v0;v1;e01;");
        due("bars", bars(x), "1-99 2-3");
        due("undo()", x.undo(), 0);
        due("row", row(x), "v0;v1;");
        due("bars", bars(x), "1-99 2-99");
        due("undo()", x.undo(), NO);
    }

    private static void undoNothing() {
        ZigzagPieces x = laid("v0;w0;");
        due("backwards()", x.backwards(), 2);
        due("backwards() changes nothing, but counts", x.count(4), 1);
        due("undo()", x.undo(), 0);
        due("row", row(x), "v0;w0;");
        x.act(0, 1, 1);
        x.keep();
        x.write('v');
        x.act(0, 1, 1);
        x.exchange(9);
        due("what is no change does not count", x.count(4), 1);
        x.wipe();
        x.lay();
        due("undo() behind lay()", x.undo(), NO);
        x.act(0, 1, 1);
        x.back();
        due("undo() behind back()", x.undo(), NO);
    }

    private static void spelt() {
        ZigzagPieces x = laid("v0;v8;e80;f08;w8;");
        String want = "v0;v8;e08;f08;w8;";
        for (int k = 0; k < want.length(); k++) {
            due("spelt(" + k + ")", x.spelt(k), want.charAt(k));
        }
        due("spelt(17)", x.spelt(17), NONE);
        due("spelt(-1)", x.spelt(-1), BAD);
        due("spelt(0) of nothing", laid("").spelt(0), NONE);
        due("spelt(-1) of nothing", laid("").spelt(-1), BAD);
    }

    private static void told() {
        ZigzagPieces x = laid("v5;v3;e53;f35;w5;");
        int[][] want = {{0, 5, NONE}, {0, 3, NONE}, {2, 3, 5}, {3, 3, 5}, {1, 5, NONE}};
        for (int k = 1; k <= 5; k++) {
            for (int what = 0; what <= 2; what++) {
                due("told(" + k + ", " + what + ")", x.told(k, what), want[k - 1][what]);
            }
        }
        due("told(0, 0)", x.told(0, 0), BAD);
        due("told(6, 0)", x.told(6, 0), BAD);
        due("told(0, 1)", x.told(0, 1), BAD);
        due("told(6, 1)", x.told(6, 1), BAD);
        due("told(6, 2)", x.told(6, 2), BAD);
        due("told(1, -1)", x.told(1, -1), BAD);
        due("told(1, 3)", x.told(1, 3), BAD);
        due("told(1, 0) of nothing", laid("").told(1, 0), BAD);
    }

    private static void graph() {
        ZigzagPieces x = laid("v1;v0;v8;e01;e81;e08;f01;v4;");
        int[][] want = {{0, 0, 0, 0}, {2, 0, 1, 0}, {3, 0, 2, 0}, {259, 0, 3, 0}, {259, 1, 2, 0},
            {259, 2, 1, 0}, {259, 3, 1, 1}, {259, 2, 1, 0}, {275, 2, 2, 0}};
        for (int k = 0; k <= 8; k++) {
            for (int what = 0; what <= 3; what++) {
                due("graph(" + k + ", " + what + ")", x.graph(k, what), want[k][what]);
            }
        }
        due("graph(-1, 0)", x.graph(-1, 0), BAD);
        due("graph(9, 0)", x.graph(9, 0), BAD);
        due("graph(0, -1)", x.graph(0, -1), BAD);
        due("graph(0, 4)", x.graph(0, 4), BAD);
        x = laid("v0;v1;v2;v3;e01;e02;e03;e12;e13;e23;");
        due("loops of all edges of four", x.graph(10, 3), 3);
        due("bars of loops", x.bar(-1, 0), 4);
    }

    private static void piece() {
        ZigzagPieces x = laid("v4;v2;v7;e47;e72;v0;f47;");
        due("piece(0, 4)", x.piece(0, 4), NONE);
        due("piece(1, 4)", x.piece(1, 4), 4);
        due("piece(3, 7)", x.piece(3, 7), 7);
        due("piece(4, 7)", x.piece(4, 7), 4);
        due("piece(5, 7)", x.piece(5, 7), 2);
        due("piece(5, 4)", x.piece(5, 4), 2);
        due("piece(5, 2)", x.piece(5, 2), 2);
        due("piece(6, 0)", x.piece(6, 0), 0);
        due("piece(7, 4)", x.piece(7, 4), 4);
        due("piece(7, 7)", x.piece(7, 7), 2);
        due("piece(5, 0)", x.piece(5, 0), NONE);
        due("piece(-1, 4)", x.piece(-1, 4), BAD);
        due("piece(8, 4)", x.piece(8, 4), BAD);
        due("piece(7, -1)", x.piece(7, -1), BAD);
        due("piece(7, 9)", x.piece(7, 9), BAD);
        x = laid("v0;v1;v2;v3;v4;v5;v6;v7;v8;e08;e87;e76;e65;e54;e43;e32;e21;");
        due("a long way", x.piece(17, 1), 0);
        due("not all of it", x.piece(16, 1), 1);
    }

    private static void root() {
        ZigzagPieces x = laid("v0;v1;v2;e12;f12;");
        due("root(0)", x.root(0), 1);
        due("root(1)", x.root(1), 2);
        due("root(2) as of what it parted from", x.root(2), 2);
        due("root(3)", x.root(3), NONE);
        due("root(8)", x.root(8), NONE);
        due("root(-1)", x.root(-1), BAD);
        due("root(9)", x.root(9), BAD);
        x.act(2, 0, 1);
        due("root(1) joined", x.root(1), 1);
        due("root(2) of its kin", x.root(2), 1);
        x.act(1, 2, 2);
        x.act(0, 2, 2);
        due("root(2) come anew", x.root(2), 8);
        x.act(2, 1, 2);
        due("root(2) joined", x.root(2), 1);
    }

    private static void kin() {
        ZigzagPieces x = laid("v0;v1;e01;f01;v2;");
        due("kin(0, 1)", x.kin(0, 1), 4);
        due("kin(1, 0)", x.kin(1, 0), 4);
        due("kin(0, 2)", x.kin(0, 2), NONE);
        due("kin(0, 0)", x.kin(0, 0), NO);
        due("kin(0, 3)", x.kin(0, 3), NO);
        due("kin(3, 0)", x.kin(3, 0), NO);
        due("kin(4, 4)", x.kin(4, 4), NO);
        due("kin(-1, 0)", x.kin(-1, 0), BAD);
        due("kin(9, 0)", x.kin(9, 0), BAD);
        due("kin(0, -1)", x.kin(0, -1), BAD);
        due("kin(3, 9)", x.kin(3, 9), BAD);
        x.act(2, 0, 2);
        due("kin(0, 2) of one piece", x.kin(0, 2), NO);
        due("kin(2, 1) as 0 was", x.kin(2, 1), 4);
        x.act(1, 1, 1);
        x.act(0, 1, 1);
        due("kin(0, 1) come anew", x.kin(0, 1), NONE);
    }

    /** The names of the points do not matter: each is another one by the turn. */
    private static int turned(int point, int turn) {
        return turn < 9 ? (point + turn) % 9 : (17 - turn + 9 - point) % 9;
    }

    private static ZigzagPieces laidTurned(String text, int turn) {
        StringBuilder other = new StringBuilder();
        for (char c : text.toCharArray()) {
            other.append(Character.isDigit(c) ? (char) ('0' + turned(c - '0', turn)) : c);
        }
        return laid(other.toString());
    }

    private static void kinDue(ZigzagPieces x, int turn, String due) {
        for (String one : due.split(" ")) {
            int a = turned(one.charAt(0) - '0', turn);
            int b = turned(one.charAt(1) - '0', turn);
            int since = Integer.parseInt(one.substring(3));
            due("turn " + turn + ", kin of " + one, x.kin(a, b), since);
            due("turn " + turn + ", kin of " + one, x.kin(b, a), since);
        }
    }

    private static void kinJoined() {
        for (int turn = 0; turn < 18; turn++) {
            // of kin: 0 and 3 since the lesser of 9 and 10
            ZigzagPieces x = laidTurned("v0;v1;v2;v3;e01;e12;e23;f12;f01;f23;e12;", turn);
            kinDue(x, turn, "01:9 02:9 31:10 32:10 03:9 12:-2");
            due("bars", bars(x), "1-99 2-5 3-6 4-7 8-11 9-99 10-99");
            // of kin: 1 with the joined piece since the greater of 6 and 7
            x = laidTurned("v0;v1;v2;e01;e12;f01;f12;e02;", turn);
            kinDue(x, turn, "01:7 21:7 02:-2");
            due("bars", bars(x), "1-99 2-4 3-5 6-8 7-99");
            // of no kin: 0 and 3 since the lesser of 4 and 8
            x = laidTurned("v0;v1;e01;f01;v2;v3;e23;f23;e12;", turn);
            kinDue(x, turn, "01:4 02:4 31:8 32:8 03:4 12:-2");
            for (int point = 0; point <= 3; point++) {
                due("root", x.root(turned(point, turn)), 1);
            }
            due("bars", bars(x), "1-99 2-3 4-99 5-9 6-7 8-99");
            // those that are kin since less than c stay so
            x = laidTurned("v0;v1;v2;e01;e12;f01;f12;e12;", turn);
            kinDue(x, turn, "01:6 02:6 12:-2");
            due("bars", bars(x), "1-99 2-4 3-5 6-99 7-8");
        }
    }

    private static void bar() {
        ZigzagPieces x = new ZigzagPieces();
        int[] begins = {1, 2, 3, 5, 7, 10, 12, 14};
        int[] ends = {99, 4, 6, 8, 9, 11, 13, 15};
        int[] last = {15, 2, 3, 3, 2, 1, 1, 1};
        for (int i = 0; i < 8; i++) {
            due("bar(" + i + ", 0)", x.bar(i, 0), begins[i]);
            due("bar(" + i + ", 1)", x.bar(i, 1), ends[i]);
            due("bar(" + i + ", 2)", x.bar(i, 2), last[i]);
        }
        for (int what = 0; what <= 2; what++) {
            due("bar(-1)", x.bar(-1, what), 8);
            due("bar(-2)", x.bar(-2, what), 1);
            due("bar(-3)", x.bar(-3, what), 7);
            due("bar(8)", x.bar(8, what), NONE);
        }
        // a point that goes ends what began with its latest kin
        x = laid("v0;v1;v2;e01;e12;f01;f12;w1;");
        due("bars", bars(x), "1-99 2-4 3-5 6-99 7-8");
        x.act(1, 0, 0);
        due("bars", bars(x), "1-99 2-4 3-5 6-9 7-8");
        x.act(1, 2, 2);
        due("bars", bars(x), "1-10 2-4 3-5 6-9 7-8");
        due("bar(-2, 0)", x.bar(-2, 0), 0);
        due("bar(-3, 0)", x.bar(-3, 0), 5);
        due("loops have no bars", bars(laid("v0;v1;v2;e01;e12;e02;f01;f02;")), "1-99 2-4 3-5 8-99");
    }

    private static void barRefused() {
        ZigzagPieces x = new ZigzagPieces();
        due("bar(-4, 0)", x.bar(-4, 0), BAD);
        due("bar(-1, -1)", x.bar(-1, -1), BAD);
        due("bar(-1, 3)", x.bar(-1, 3), BAD);
        due("bar(-3, 3)", x.bar(-3, 3), BAD);
        due("bar(0, 3)", x.bar(0, 3), BAD);
        due("bar(0, -1)", x.bar(0, -1), BAD);
        due("BAD ahead of NONE", x.bar(8, 3), BAD);
        x = laid("");
        due("bar(-1, 0) of nothing", x.bar(-1, 0), 0);
        due("bar(-2, 0) of nothing", x.bar(-2, 0), 0);
        due("bar(-3, 0) of nothing", x.bar(-3, 0), 0);
        due("bar(0, 0) of nothing", x.bar(0, 0), NONE);
    }

    private static void lasting() {
        ZigzagPieces x = new ZigzagPieces();
        due("lasting(0, 0)", x.lasting(0, 0), 0);
        due("lasting(0, 1)", x.lasting(0, 1), 0);
        due("lasting(1, 15)", x.lasting(1, 15), 1);
        due("lasting(2, 3)", x.lasting(2, 3), 2);
        due("lasting(2, 4)", x.lasting(2, 4), 1);
        due("lasting(3, 3)", x.lasting(3, 3), 3);
        due("lasting(5, 5)", x.lasting(5, 5), 3);
        due("lasting(5, 7)", x.lasting(5, 7), 2);
        due("lasting(5, 8)", x.lasting(5, 8), 1);
        due("lasting(15, 15)", x.lasting(15, 15), 1);
        due("lasting(4, 3)", x.lasting(4, 3), BAD);
        due("lasting(-1, 3)", x.lasting(-1, 3), BAD);
        due("lasting(3, 16)", x.lasting(3, 16), BAD);
        due("lasting(16, 16)", x.lasting(16, 16), BAD);
        due("lasting(0, 0) of nothing", laid("").lasting(0, 0), 0);
        due("lasting(0, 1) of nothing", laid("").lasting(0, 1), BAD);
        // what comes anew is another one
        x = laid("v0;w0;v0;w0;");
        due("lasting(1, 3)", x.lasting(1, 3), 0);
        due("lasting(3, 3)", x.lasting(3, 3), 1);
    }

    private static void longer() {
        ZigzagPieces x = new ZigzagPieces();
        due("longer(1)", x.longer(1), 8);
        due("longer(2)", x.longer(2), 5);
        due("longer(3)", x.longer(3), 3);
        due("longer(4)", x.longer(4), 1);
        due("longer(15)", x.longer(15), 1);
        due("longer(16)", x.longer(16), 0);
        due("longer(41)", x.longer(41), 0);
        due("longer(0)", x.longer(0), BAD);
        due("longer(42)", x.longer(42), BAD);
        due("longer(-1)", x.longer(-1), BAD);
        due("longer(1) of nothing", laid("").longer(1), 0);
        x = laid("v8;" + times(19, "v0;w0;") + "v0;");
        due("longer(40)", x.longer(40), 1);
        due("longer(41)", x.longer(41), 0);
        due("longer(1)", x.longer(1), 21);
    }

    private static void steadiest() {
        ZigzagPieces x = laid("v0;w0;v1;w1;v2;v3;");
        due("steadiest(0)", x.steadiest(0), 4);
        due("steadiest(1)", x.steadiest(1), 3);
        due("the row stays", row(x), "v0;w0;v1;w1;v2;v3;");
        due("bars", bars(x), "1-2 3-4 5-99 6-99");
        due("count(4)", x.count(4), 0);
        x = laid("v0;w0;v1;v2;w1;w2;");
        due("the lowest of several", x.steadiest(0), 2);
        due("steadiest(1)", x.steadiest(1), 3);
        due("steadiest(-1)", x.steadiest(-1), BAD);
        due("steadiest(2)", x.steadiest(2), BAD);
        x = laid("v0;w0;v0;");
        due("none can be", x.steadiest(0), NONE);
        due("none can be", x.steadiest(1), NONE);
        due("BAD ahead of NONE", x.steadiest(2), BAD);
        due("of one act", laid("v0;").steadiest(0), NONE);
        due("of no act", laid("").steadiest(1), NONE);
        x = laid("v0;v1;w0;");
        due("steadiest(0)", x.steadiest(0), 1);
        due("steadiest(1)", x.steadiest(1), 3);
    }

    private static void keep() {
        ZigzagPieces x = laid("v0;v1;");
        due("keep()", x.keep(), 1);
        x.drop();
        due("keep()", x.keep(), 2);
        due("keep()", x.keep(), FULL);
        due("count(6)", x.count(6), 2);
        x.drop();
        due("back()", x.back(), 1);
        due("row", row(x), "v0;");
        due("keep()", x.keep(), 2);
        due("back()", x.back(), 1);
        due("back()", x.back(), 0);
        due("row", row(x), "v0;v1;");
    }

    private static void other() {
        ZigzagPieces x = laid("v0;v1;e01;");
        due("other()", x.other(), NO);
        x.keep();
        due("other()", x.other(), 0);
        x.act(3, 0, 1);
        due("one bar more than kept", x.other(), 1);
        x.undo();
        x.drop();
        due("2-99 is none of 1-99 2-3", x.other(), 1);
        x.drop();
        due("one bar less than kept", x.other(), 0);
        x.keep();
        x.act(0, 5, 5);
        due("beside that kept last", x.other(), 1);
        x.wipe();
        x.lay();
        due("of nothing", x.other(), 0);
        due("kept stays", x.count(6), 2);
        due("the row stays", row(x), "");
    }

    private static void back() {
        ZigzagPieces x = laid("v0;v1;e01;");
        due("back()", x.back(), NO);
        x.keep();
        x.drop();
        x.keep();
        x.clear();
        due("back()", x.back(), 1);
        due("row", row(x), "v0;v1;");
        due("undo()", x.undo(), NO);
        x.drop();
        due("count(4)", x.count(4), 1);
        due("back()", x.back(), 0);
        due("row", row(x), "v0;v1;e01;");
        due("bars", bars(x), "1-99 2-3");
        due("counts", counts(x), "3 2 1 1 0 10 0");
        x.drop();
        due("back()", x.back(), NO);
        due("changes can be undone still", x.undo(), 0);
    }

    private static void count() {
        ZigzagPieces x = laid("v0;v1;v5;v6;e01;e05;");
        x.keep();
        x.act(2, 1, 5);
        x.wipe();
        x.write('v');
        due("count(0)", x.count(0), 7);
        due("count(1)", x.count(1), 4);
        due("count(2)", x.count(2), 3);
        due("count(3)", x.count(3), 2);
        due("count(4)", x.count(4), 1);
        due("count(5)", x.count(5), 1);
        due("count(6)", x.count(6), 1);
        due("count(-1)", x.count(-1), BAD);
        due("count(7)", x.count(7), BAD);
    }

    /** Numbers far off are BAD everywhere, with a row that is empty, as at first, or full. */
    private static void wildNumbers() {
        ZigzagPieces[] all = {new ZigzagPieces(), laid(""), laid(times(20, "v0;w0;"))};
        int[] wild = {Integer.MIN_VALUE, Integer.MIN_VALUE + 1, -100, 100000, Integer.MAX_VALUE - 1,
            Integer.MAX_VALUE};
        for (ZigzagPieces x : all) {
            String before = row(x) + counts(x) + bars(x);
            for (int w : wild) {
                due("write", x.write(w), BAD);
                due("act", x.act(w, 0, 1), BAD);
                due("act", x.act(0, w, 1), BAD);
                due("act", x.act(2, 1, w), BAD);
                due("exchange", x.exchange(w), BAD);
                due("spelt", x.spelt(w), w < 0 ? BAD : NONE);
                due("told", x.told(w, 0), BAD);
                due("told", x.told(1, w), BAD);
                due("graph", x.graph(w, 0), BAD);
                due("graph", x.graph(0, w), BAD);
                due("piece", x.piece(w, 0), BAD);
                due("piece", x.piece(0, w), BAD);
                due("root", x.root(w), BAD);
                due("kin", x.kin(w, 0), BAD);
                due("kin", x.kin(0, w), BAD);
                due("bar", x.bar(w, 0), w < 0 ? BAD : NONE);
                due("bar", x.bar(0, w), BAD);
                due("lasting", x.lasting(w, 0), BAD);
                due("lasting", x.lasting(0, w), BAD);
                due("longer", x.longer(w), BAD);
                due("steadiest", x.steadiest(w), BAD);
                due("count", x.count(w), BAD);
            }
            due("nothing changes", row(x) + counts(x) + bars(x), before);
        }
    }
}
