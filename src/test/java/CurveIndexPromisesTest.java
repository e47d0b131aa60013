import java.lang.reflect.Member;
import java.lang.reflect.Modifier;
import java.util.Arrays;
import java.util.TreeSet;

/** The document's promises one by one, with answers worked out by hand from its words. */
public final class CurveIndexPromisesTest {
    private static final int LEAST = Integer.MIN_VALUE;
    private static final int MOST = Integer.MAX_VALUE;

    private static int checks = 0;
    private static int wrong = 0;
    private static String promise = "";

    public static void main(String[] args) {
        theFace();
        aNewObject();
        objectsShareNothing();
        begin();
        beginRefused();
        keyOfTheWeave();
        keyOfTheTurn();
        keyOfTheTurnOnASideOf16();
        keyRefused();
        cellIsTheOtherWay();
        cellRefused();
        put();
        putRefused();
        putUpToTheLimit();
        take();
        at();
        many();
        window();
        windowRefused();
        insideAndSum();
        nth();
        runs();
        runsLimit();
        run();
        runRefused();
        nearest();
        nearestFarAway();
        System.out.println(checks + " checks, " + wrong + " wrong");
        if (wrong != 0) {
            System.exit(1);
        }
    }

    private static void due(String call, long got, long want) {
        checks++;
        if (got != want) {
            wrong++;
            System.out.println(promise + ": " + call + " answered " + got + ", due is " + want);
        }
    }

    private static void due(String call, boolean got, boolean want) {
        due(call, got ? 1 : 0, want ? 1 : 0);
    }

    private static CurveIndex grid(int n) {
        CurveIndex index = new CurveIndex();
        due("begin(" + n + ")", index.begin(n), true);
        return index;
    }

    private static void theFace() {
        promise = "the public face";
        dueFace("public final class CurveIndex", Modifier.toString(CurveIndex.class.getModifiers()), "public final");
        dueFace("what it extends", CurveIndex.class.getSuperclass().getName(), "java.lang.Object");
        due("interfaces", CurveIndex.class.getInterfaces().length, 0);
        due("NONE", CurveIndex.NONE, -1);
        TreeSet<String> want = new TreeSet<>(Arrays.asList(
            "public static final int CurveIndex.NONE",
            "public CurveIndex()",
            "public boolean CurveIndex.begin(int)",
            "public int CurveIndex.key(int,int,int)",
            "public int CurveIndex.cell(int,int)",
            "public int CurveIndex.put(int,int,int)",
            "public int CurveIndex.take(int,int)",
            "public int CurveIndex.at(int,int)",
            "public int CurveIndex.many()",
            "public boolean CurveIndex.window(int,int,int,int)",
            "public int CurveIndex.inside()",
            "public int CurveIndex.sum()",
            "public int CurveIndex.nth(int,int)",
            "public int CurveIndex.runs(int)",
            "public int CurveIndex.run(int,int,int)",
            "public int CurveIndex.nearest(int,int)"));
        TreeSet<String> got = new TreeSet<>();
        addVisible(got, CurveIndex.class.getDeclaredFields());
        addVisible(got, CurveIndex.class.getDeclaredConstructors());
        addVisible(got, CurveIndex.class.getDeclaredMethods());
        dueFace("the members that are not private", String.join("; ", got), String.join("; ", want));
        for (Class<?> inner : CurveIndex.class.getDeclaredClasses()) {
            int modifiers = inner.getModifiers();
            boolean isHidden = !Modifier.isPublic(modifiers) && !Modifier.isProtected(modifiers);
            due(inner.getName() + " is static and not public", isHidden && Modifier.isStatic(modifiers), true);
        }
    }

    private static void addVisible(TreeSet<String> face, Member[] members) {
        for (Member member : members) {
            if (!Modifier.isPrivate(member.getModifiers())) {
                face.add(member.toString());
            }
        }
    }

    private static void dueFace(String what, String got, String want) {
        if (!got.equals(want)) {
            System.out.println(got + "\ndue is " + want);
        }
        due(what, got.equals(want), true);
    }

    private static void aNewObject() {
        promise = "1 a new object";
        CurveIndex index = new CurveIndex();
        due("many()", index.many(), 0);
        due("inside()", index.inside(), 0);
        due("sum()", index.sum(), 0);
        due("at(1, 1)", index.at(1, 1), 0);
        due("at(2, 0)", index.at(2, 0), -1);
        due("at(0, 2)", index.at(0, 2), -1);
        due("cell(0, 3)", index.cell(0, 3), 3);
        due("cell(0, 4)", index.cell(0, 4), -1);
        due("runs(0)", index.runs(0), 1);
        due("run(1, 0, 1)", index.run(1, 0, 1), 0);
        due("nth(0, 0)", index.nth(0, 0), -1);
        due("nearest(0, 0)", index.nearest(0, 0), -1);
        index.put(0, 0, 4);
        index.put(0, 1, 8);
        index.put(1, 0, 16);
        index.put(1, 1, 32);
        due("inside()", index.inside(), 1);
        due("sum()", index.sum(), 4);
        due("many() of another object", new CurveIndex().many(), 0);
    }

    /** Two objects by turns: what is done to the one is not seen in the other. */
    private static void objectsShareNothing() {
        promise = "1 a new object, beside another one";
        CurveIndex one = grid(4);
        CurveIndex other = grid(2);
        one.put(15, 15, 7);
        one.window(8, 8, 15, 15);
        other.put(3, 3, 5);
        other.put(0, 0, 6);
        due("many()", one.many(), 1);
        due("many() of the other", other.many(), 2);
        due("sum()", one.sum(), 7);
        due("sum() of the other", other.sum(), 6);
        due("nth(0, 0)", one.nth(0, 0), 255);
        due("nth(0, 0) of the other", other.nth(0, 0), 0);
        due("nearest(0, 0)", one.nearest(0, 0), 255);
        due("nearest(3, 2) of the other", other.nearest(3, 2), 15);
        due("run(1, 0, 0)", one.run(1, 0, 0), 128);
        due("run(1, 0, 0) of the other", other.run(1, 0, 0), 0);
        due("key(1, 15, 0)", one.key(1, 15, 0), 255);
        due("key(1, 15, 0) of the other", other.key(1, 15, 0), -1);
        other.begin(1);
        due("at(15, 15) when the other has begun anew", one.at(15, 15), 7);
        due("inside() when the other has begun anew", one.inside(), 1);
    }

    private static void begin() {
        promise = "2 begin";
        for (int n = 1; n <= 15; n++) {
            CurveIndex index = grid(n);
            int side = 1 << n;
            due("at(side - 1, side - 1)", index.at(side - 1, side - 1), 0);
            due("at(side, 0)", index.at(side, 0), -1);
            due("at(0, side)", index.at(0, side), -1);
            index.put(0, 0, 3);
            index.put(1, 1, 5);
            index.window(1, 1, 1, 1);
            due("begin(n) again", index.begin(n), true);
            due("many()", index.many(), 0);
            due("at(1, 1)", index.at(1, 1), 0);
            due("nearest(0, 0)", index.nearest(0, 0), -1);
            due("inside()", index.inside(), 0);
            due("nth(0, 0)", index.nth(0, 0), -1);
            due("nth(1, 0)", index.nth(1, 0), -1);
            index.put(0, 0, 3);
            index.put(0, 1, 4);
            index.put(1, 0, 5);
            due("sum() of the cell (0, 0)", index.sum(), 3);
            due("run(0, 0, 1)", index.run(0, 0, 1), 0);
        }
    }

    private static void beginRefused() {
        promise = "2 begin, refused";
        CurveIndex index = grid(3);
        index.put(7, 7, 9);
        index.window(6, 6, 7, 7);
        for (int n : new int[] {0, -1, 16, 17, 32, 33, LEAST, MOST}) {
            due("begin(" + n + ")", index.begin(n), false);
            due("many()", index.many(), 1);
            due("sum()", index.sum(), 9);
            due("at(8, 0)", index.at(8, 0), -1);
        }
    }

    private static void keyOfTheWeave() {
        promise = "3 key, curve 0";
        int[][] keys = {{0, 2, 8, 10}, {1, 3, 9, 11}, {4, 6, 12, 14}, {5, 7, 13, 15}};
        CurveIndex index = grid(2);
        for (int x = 0; x < 4; x++) {
            for (int y = 0; y < 4; y++) {
                due("key(0, " + x + ", " + y + ")", index.key(0, x, y), keys[x][y]);
            }
        }
        CurveIndex large = grid(15);
        due("key(0, 32767, 32767)", large.key(0, 32767, 32767), (1 << 30) - 1);
        due("key(0, 32767, 0)", large.key(0, 32767, 0), 0x15555555);
        due("key(0, 0, 32767)", large.key(0, 0, 32767), 0x2AAAAAAA);
        due("key(0, 16384, 0)", large.key(0, 16384, 0), 1 << 28);
        due("key(0, 0, 16384)", large.key(0, 0, 16384), 1 << 29);
    }

    private static void keyOfTheTurn() {
        promise = "3 key, curve 1";
        int[][] side2 = {{0, 1}, {3, 2}};
        int[][] side4 = {{0, 3, 4, 5}, {1, 2, 7, 6}, {14, 13, 8, 9}, {15, 12, 11, 10}};
        CurveIndex two = new CurveIndex();
        CurveIndex four = grid(2);
        for (int x = 0; x < 4; x++) {
            for (int y = 0; y < 4; y++) {
                due("key(1, " + x + ", " + y + ")", four.key(1, x, y), side4[x][y]);
                if (x < 2 && y < 2) {
                    due("key(1, " + x + ", " + y + ")", two.key(1, x, y), side2[x][y]);
                }
            }
        }
        for (int n = 1; n <= 15; n++) {
            CurveIndex index = grid(n);
            int side = 1 << n;
            due("key(1, 0, 0)", index.key(1, 0, 0), 0);
            due("key(1, side - 1, 0)", index.key(1, side - 1, 0), (1 << 2 * n) - 1);
            // The curve comes from (0, s) and enters the third quarter at its own (0, 0).
            due("key(1, s, s)", index.key(1, side / 2, side / 2), 1 << 2 * n - 1);
        }
    }

    /** Any table or rule that is wrong in one of the turn's four ways to lie breaks the line or its form. */
    private static void keyOfTheTurnOnASideOf16() {
        promise = "3 key, curve 1, side 16";
        CurveIndex index = grid(4);
        int[] cells = new int[256];
        for (int x = 0; x < 16; x++) {
            for (int y = 0; y < 16; y++) {
                int key = index.key(1, x, y);
                due("key(1, " + x + ", " + y + ")", key, turn(16, x, y));
                cells[key & 255] = 16 * x + y;
            }
        }
        for (int key = 1; key < 256; key++) {
            int across = Math.abs(cells[key] / 16 - cells[key - 1] / 16);
            int along = Math.abs(cells[key] % 16 - cells[key - 1] % 16);
            due("the step to key " + key, across + along, 1);
        }
    }

    private static int turn(int side, int x, int y) {
        int s = side / 2;
        if (side == 1) {
            return 0;
        }
        if (x < s) {
            return y < s ? turn(s, y, x) : s * s + turn(s, x, y - s);
        }
        return y < s ? 3 * s * s + turn(s, s - 1 - y, 2 * s - 1 - x) : 2 * s * s + turn(s, x - s, y - s);
    }

    private static void keyRefused() {
        promise = "3 key, refused";
        CurveIndex index = grid(4);
        for (int curve : new int[] {-1, 2, 3, LEAST, MOST}) {
            due("key(" + curve + ", 0, 0)", index.key(curve, 0, 0), -1);
        }
        for (int curve = 0; curve < 2; curve++) {
            for (int off : new int[] {-1, 16, 17, 32, LEAST, MOST}) {
                due("key(" + curve + ", " + off + ", 3)", index.key(curve, off, 3), -1);
                due("key(" + curve + ", 3, " + off + ")", index.key(curve, 3, off), -1);
            }
        }
    }

    private static void cellIsTheOtherWay() {
        promise = "4 cell";
        due("cell(1, 3)", new CurveIndex().cell(1, 3), 2);
        due("cell(0, 1)", new CurveIndex().cell(0, 1), 2);
        for (int n = 1; n <= 5; n++) {
            CurveIndex index = null;
            int side = 1 << n;
            for (int key = 0; key < side * side; key++) {
                // An object is used for 512 calls at most.
                if (key % 100 == 0) {
                    index = grid(n);
                }
                for (int curve = 0; curve < 2; curve++) {
                    int cell = index.cell(curve, key);
                    due("the key of cell(" + curve + ", " + key + ")", index.key(curve, cell / side, cell % side), key);
                }
            }
        }
        CurveIndex large = grid(15);
        due("cell(0, last)", large.cell(0, (1 << 30) - 1), (1 << 30) - 1);
        due("cell(1, last)", large.cell(1, (1 << 30) - 1), 32767 << 15);
        due("cell(0, 2^29)", large.cell(0, 1 << 29), 16384);
        due("cell(1, 2^29)", large.cell(1, 1 << 29), (16384 << 15) + 16384);
    }

    private static void cellRefused() {
        promise = "4 cell, refused";
        for (int n = 1; n <= 15; n++) {
            CurveIndex index = grid(n);
            int keys = 1 << 2 * n;
            for (int curve = 0; curve < 2; curve++) {
                for (int key : new int[] {-1, keys, keys + 1, LEAST, MOST}) {
                    due("cell(" + curve + ", " + key + ")", index.cell(curve, key), -1);
                }
            }
            for (int curve : new int[] {-1, 2, LEAST, MOST}) {
                due("cell(" + curve + ", 0)", index.cell(curve, 0), -1);
            }
        }
    }

    private static void put() {
        promise = "5 put";
        CurveIndex index = grid(3);
        due("put(2, 5, 1)", index.put(2, 5, 1), 0);
        due("put(2, 5, 999)", index.put(2, 5, 999), 1);
        due("put(2, 5, 7)", index.put(2, 5, 7), 999);
        due("put(5, 2, 8)", index.put(5, 2, 8), 0);
        due("at(2, 5)", index.at(2, 5), 7);
        due("at(5, 2)", index.at(5, 2), 8);
        due("many()", index.many(), 2);
    }

    private static void putRefused() {
        promise = "5 put, refused";
        CurveIndex index = grid(3);
        index.put(2, 5, 7);
        for (int weight : new int[] {0, -1, 1000, 1001, LEAST, MOST}) {
            due("put(2, 5, " + weight + ")", index.put(2, 5, weight), -1);
            due("put(3, 3, " + weight + ")", index.put(3, 3, weight), -1);
        }
        for (int off : new int[] {-1, 8, 9, LEAST, MOST}) {
            due("put(" + off + ", 0, 1)", index.put(off, 0, 1), -1);
            due("put(0, " + off + ", 1)", index.put(0, off, 1), -1);
        }
        due("at(2, 5)", index.at(2, 5), 7);
        due("at(3, 3)", index.at(3, 3), 0);
        due("many()", index.many(), 1);
    }

    private static void putUpToTheLimit() {
        promise = "5 put, 500 points";
        CurveIndex index = grid(15);
        for (int i = 0; i < 500; i++) {
            due("put", index.put(i * 64 % 32768, i * 7919 % 32768, 2), 0);
        }
        due("put of one more", index.put(1, 1, 2), -1);
        due("many()", index.many(), 500);
        due("put in the stead of one", index.put(0, 0, 5), 2);
        due("at(1, 1)", index.at(1, 1), 0);
        due("take(0, 0)", index.take(0, 0), 5);
        due("put(1, 1, 2)", index.put(1, 1, 2), 0);
        due("put(0, 0, 2)", index.put(0, 0, 2), -1);
        due("many()", index.many(), 500);
        due("begin(1)", index.begin(1), true);
        due("put(0, 0, 2) on a new grid", index.put(0, 0, 2), 0);
    }

    private static void take() {
        promise = "6 take";
        CurveIndex index = grid(3);
        index.put(2, 5, 7);
        index.put(5, 2, 8);
        index.window(0, 0, 7, 7);
        due("take(0, 0)", index.take(0, 0), 0);
        due("take(2, 5)", index.take(2, 5), 7);
        due("take(2, 5) again", index.take(2, 5), 0);
        due("at(2, 5)", index.at(2, 5), 0);
        due("many()", index.many(), 1);
        due("inside()", index.inside(), 1);
        due("nth(0, 0)", index.nth(0, 0), 42);
        due("nth(1, 0)", index.nth(1, 0), 42);
        due("nth(0, 1)", index.nth(0, 1), -1);
        due("nth(1, 1)", index.nth(1, 1), -1);
        for (int off : new int[] {-1, 8, LEAST, MOST}) {
            due("take(" + off + ", 2)", index.take(off, 2), -1);
            due("take(5, " + off + ")", index.take(5, off), -1);
        }
        due("many()", index.many(), 1);
    }

    private static void at() {
        promise = "7 at";
        CurveIndex index = grid(4);
        index.put(15, 0, 3);
        index.put(0, 15, 4);
        due("at(15, 0)", index.at(15, 0), 3);
        due("at(0, 15)", index.at(0, 15), 4);
        due("at(15, 15)", index.at(15, 15), 0);
        // (0, 16) would have the number of the cell (1, 0) if it were a cell.
        index.put(1, 0, 5);
        for (int off : new int[] {-1, 16, LEAST, MOST}) {
            due("at(" + off + ", 0)", index.at(off, 0), -1);
            due("at(0, " + off + ")", index.at(0, off), -1);
        }
    }

    private static void many() {
        promise = "8 many";
        CurveIndex index = grid(5);
        for (int i = 0; i < 32; i++) {
            index.put(i, 31 - i, 1);
            due("many()", index.many(), i + 1);
        }
        index.put(0, 31, 2);
        due("many() after one in its stead", index.many(), 32);
        index.take(0, 31);
        index.take(0, 31);
        due("many() after take", index.many(), 31);
        index.window(0, 0, 0, 0);
        due("many() whatever the window", index.many(), 31);
    }

    private static void window() {
        promise = "9 window";
        CurveIndex index = grid(4);
        for (int x = 0; x < 16; x++) {
            for (int y = 0; y < 16; y++) {
                index.put(x, y, 1);
            }
        }
        due("window(3, 4, 3, 4)", index.window(3, 4, 3, 4), true);
        due("nth(0, 0)", index.nth(0, 0), 52);
        due("inside()", index.inside(), 1);
        due("window(3, 4, 5, 4)", index.window(3, 4, 5, 4), true);
        due("inside()", index.inside(), 3);
        due("window(3, 4, 3, 7)", index.window(3, 4, 3, 7), true);
        due("inside()", index.inside(), 4);
        due("window(0, 0, 15, 15)", index.window(0, 0, 15, 15), true);
        due("inside()", index.inside(), 256);
        due("runs(0)", index.runs(0), 1);
    }

    private static void windowRefused() {
        promise = "9 window, refused";
        CurveIndex index = grid(4);
        index.put(3, 4, 6);
        index.window(3, 4, 4, 5);
        int[][] windows = {
            {-1, 0, 2, 2}, {0, -1, 2, 2}, {0, 0, 16, 2}, {0, 0, 2, 16}, {5, 5, 4, 6}, {5, 5, 6, 4},
            {5, 5, 4, 4}, {16, 16, 16, 16}, {LEAST, 0, MOST, 0}, {0, LEAST, 0, MOST}, {-2, -2, -1, -1}
        };
        for (int[] w : windows) {
            due("window(" + w[0] + ", " + w[1] + ", " + w[2] + ", " + w[3] + ")", index.window(w[0], w[1], w[2], w[3]), false);
            due("inside()", index.inside(), 1);
            due("runs(0)", index.runs(0), 4);
        }
    }

    private static void insideAndSum() {
        promise = "10 inside, 11 sum";
        CurveIndex index = grid(4);
        index.put(4, 4, 1);
        index.put(4, 8, 20);
        index.put(8, 4, 300);
        index.put(8, 8, 999);
        index.put(3, 6, 500);
        index.put(9, 6, 500);
        index.put(6, 3, 500);
        index.put(6, 9, 500);
        due("inside() the cell (0, 0)", index.inside(), 0);
        due("sum()", index.sum(), 0);
        index.window(4, 4, 8, 8);
        due("inside()", index.inside(), 4);
        due("sum()", index.sum(), 1320);
        index.put(8, 8, 1);
        due("inside()", index.inside(), 4);
        due("sum()", index.sum(), 322);
        index.take(8, 4);
        due("inside()", index.inside(), 3);
        due("sum()", index.sum(), 22);
        index.put(5, 5, 8);
        due("inside()", index.inside(), 4);
        due("sum()", index.sum(), 30);

        CurveIndex full = grid(15);
        for (int i = 0; i < 500; i++) {
            full.put(i, 0, 999);
        }
        full.window(0, 0, 32767, 32767);
        due("inside() of 500", full.inside(), 500);
        due("sum() of 500", full.sum(), 499500);
    }

    private static void nth() {
        promise = "12 nth";
        CurveIndex index = grid(2);
        for (int x = 3; x >= 0; x--) {
            for (int y = 0; y < 4; y++) {
                index.put(x, y, 1);
            }
        }
        index.window(1, 1, 2, 3);
        int[] weave = {5, 9, 6, 7, 10, 11};
        int[] turn = {5, 7, 6, 10, 11, 9};
        for (int i = 0; i < 6; i++) {
            due("nth(0, " + i + ")", index.nth(0, i), weave[i]);
            due("nth(1, " + i + ")", index.nth(1, i), turn[i]);
        }
        for (int curve = 0; curve < 2; curve++) {
            for (int i : new int[] {-1, 6, 7, LEAST, MOST}) {
                due("nth(" + curve + ", " + i + ")", index.nth(curve, i), -1);
            }
        }
        for (int curve : new int[] {-1, 2, LEAST, MOST}) {
            due("nth(" + curve + ", 0)", index.nth(curve, 0), -1);
        }
        CurveIndex large = grid(15);
        large.put(32767, 32767, 1);
        large.window(0, 0, 32767, 32767);
        due("nth(0, 0) of a window of more than 4096 cells", large.nth(0, 0), (1 << 30) - 1);
    }

    private static void runs() {
        promise = "13 runs";
        CurveIndex index = grid(2);
        index.window(1, 1, 2, 2);
        due("runs(0)", index.runs(0), 4);
        due("runs(1)", index.runs(1), 3);
        index.window(0, 0, 1, 3);
        due("runs(0) of a half in two quarters", index.runs(0), 2);
        due("runs(1) of a half in one piece", index.runs(1), 1);
        index.window(0, 0, 3, 1);
        due("runs(0) of the other half", index.runs(0), 1);
        due("runs(1) of the other half", index.runs(1), 2);
        index.put(1, 1, 1);
        due("runs(0) whatever the points", index.runs(0), 1);
        for (int curve : new int[] {-1, 2, LEAST, MOST}) {
            due("runs(" + curve + ")", index.runs(curve), -1);
        }
    }

    private static void runsLimit() {
        promise = "13 runs, 4096 cells";
        CurveIndex index = grid(15);
        index.window(64, 128, 127, 191);
        due("runs(0) of an even square", index.runs(0), 1);
        due("runs(1) of an even square", index.runs(1), 1);
        index.window(0, 0, 0, 4095);
        due("runs(0) of a column", index.runs(0), 4096);
        due("run(0, 4095, 0)", index.run(0, 4095, 0), 2 * (((1 << 24) - 1) / 3));
        index.window(0, 0, 4095, 0);
        due("runs(0) of a line", index.runs(0), 2048);
        int[][] tooLarge = {{0, 0, 4096, 0}, {0, 0, 0, 4096}, {0, 0, 16, 240}, {0, 0, 32767, 32767}, {100, 100, 163, 164}};
        for (int[] w : tooLarge) {
            due("window", index.window(w[0], w[1], w[2], w[3]), true);
            for (int curve = 0; curve < 2; curve++) {
                due("runs(" + curve + ")", index.runs(curve), -1);
                due("run(" + curve + ", 0, 0)", index.run(curve, 0, 0), -1);
                due("run(" + curve + ", 0, 1)", index.run(curve, 0, 1), -1);
            }
        }
        CurveIndex whole = grid(6);
        whole.window(0, 0, 63, 63);
        due("runs(1) of a whole grid", whole.runs(1), 1);
        due("run(1, 0, 1)", whole.run(1, 0, 1), 4095);
    }

    private static void run() {
        promise = "14 run";
        CurveIndex index = grid(2);
        index.window(1, 0, 3, 2);
        // Weave keys 1, 3, 4..7, 9, 12, 13; turn keys 1, 2, 7, 8, 11..15.
        dueRuns(index, 0, new int[] {1, 1, 3, 7, 9, 9, 12, 13});
        dueRuns(index, 1, new int[] {1, 2, 7, 8, 11, 15});
        index.window(3, 3, 3, 3);
        dueRuns(index, 0, new int[] {15, 15});
        dueRuns(index, 1, new int[] {10, 10});
    }

    private static void dueRuns(CurveIndex index, int curve, int[] ends) {
        due("runs(" + curve + ")", index.runs(curve), ends.length / 2);
        for (int i = 0; i < ends.length; i++) {
            due("run(" + curve + ", " + i / 2 + ", " + i % 2 + ")", index.run(curve, i / 2, i % 2), ends[i]);
        }
    }

    private static void runRefused() {
        promise = "14 run, refused";
        CurveIndex index = grid(2);
        index.window(1, 0, 3, 2);
        for (int which = 0; which < 2; which++) {
            for (int i : new int[] {-1, 4, 5, LEAST, MOST}) {
                due("run(0, " + i + ", " + which + ")", index.run(0, i, which), -1);
            }
            due("run(1, 3, " + which + ")", index.run(1, 3, which), -1);
            for (int curve : new int[] {-1, 2, LEAST, MOST}) {
                due("run(" + curve + ", 0, " + which + ")", index.run(curve, 0, which), -1);
            }
        }
        for (int which : new int[] {-1, 2, LEAST, MOST}) {
            due("run(0, 0, " + which + ")", index.run(0, 0, which), -1);
        }
    }

    private static void nearest() {
        promise = "15 nearest";
        CurveIndex index = grid(3);
        due("nearest(0, 0) without points", index.nearest(0, 0), -1);
        index.put(7, 7, 1);
        due("nearest(0, 0)", index.nearest(0, 0), 63);
        index.put(0, 5, 1);
        index.put(4, 4, 1);
        // Squares: 4 + 4 apart each way is 32, 5 is 25; by steps or by the larger way (4, 4) would win or tie.
        due("nearest(0, 0) by squares", index.nearest(0, 0), 5);
        index.take(0, 5);
        due("nearest(0, 0) after take", index.nearest(0, 0), 36);
        due("nearest(7, 7) itself", index.nearest(7, 7), 63);
        for (int off : new int[] {-1, 8, LEAST, MOST}) {
            due("nearest(" + off + ", 0)", index.nearest(off, 0), -1);
            due("nearest(0, " + off + ")", index.nearest(0, off), -1);
        }
        CurveIndex four = grid(2);
        four.put(3, 1, 999);
        four.put(1, 1, 1);
        due("nearest(2, 1): keys 12 and 2", four.nearest(2, 1), 5);
        four.begin(2);
        four.put(2, 1, 1);
        four.put(1, 2, 1);
        // The weave's keys are 6 and 9, the turn's 13 and 7.
        due("nearest(1, 1): keys 13 and 7", four.nearest(1, 1), 6);
        four.window(3, 3, 3, 3);
        due("nearest(1, 1) whatever the window", four.nearest(1, 1), 6);
    }

    private static void nearestFarAway() {
        promise = "15 nearest, far away";
        CurveIndex index = grid(15);
        index.put(32767, 32767, 1);
        due("nearest(0, 0)", index.nearest(0, 0), (1 << 30) - 1);
        index.put(32767, 32766, 1);
        due("nearest(0, 0)", index.nearest(0, 0), (1 << 30) - 2);
        due("nearest(32767, 0)", index.nearest(32767, 0), (1 << 30) - 2);
        due("nearest(0, 32767)", index.nearest(0, 32767), (1 << 30) - 1);
    }
}
