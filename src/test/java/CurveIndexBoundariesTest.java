import java.util.ArrayList;
import java.util.List;

/**
 * Each sentence of the document that names a boundary case: the last value that is still good, the
 * first that is not, and, where a call is refused, that the object looks as it would without the call.
 */
public final class CurveIndexBoundariesTest {
    private static final int LEAST = Integer.MIN_VALUE;
    private static final int MOST = Integer.MAX_VALUE;
    private static final long NONE = -1;
    private static final int MOST_CALLS = 512;
    private static final int DEAREST_LOOK = 3;

    /** The first that are none, some that would be one if only their low bits were read, and the ends of the ints. */
    private static final int[] NO_CURVES = {-1, 2, -2, 3, 256, 257, 1 << 16, LEAST, LEAST + 1, MOST - 1, MOST};
    private static final int[] NO_LEVELS = {0, 16, -1, 17, 31, 32, 33, 47, 257, LEAST, LEAST + 1, MOST - 1, MOST};
    private static final int[] NO_WEIGHTS = {0, 1000, -1, -999, 1001, 1024, 65536 + 7, LEAST, LEAST + 7, MOST - 1, MOST};
    private static final int[] NO_WHICH = {-1, 2, -2, 3, 256, 257, LEAST, LEAST + 1, MOST - 1, MOST};

    private static int checks = 0;
    private static int wrong = 0;
    private static String sentence = "";

    public static void main(String[] args) {
        theTermsOfTheGrid();
        theTermsOfTheCurves();
        theTermsOfTheWindow();
        theChanges();
        theWindowsPoints();
        theWindowsRuns();
        theNearest();
        argumentsMayBeAnyInts();
        System.out.println(checks + " checks, " + wrong + " wrong");
        if (wrong != 0) {
            System.exit(1);
        }
    }

    private static void theTermsOfTheGrid() {
        anObjectIsUsedFor512Calls();
        theLevelsAreOneAtFirst();
        theLevelsAreOneTo15();
        theCellsOfAGrid();
        noOtherCells();
        aCellIsToldAsOneNumber();
        aWeightIsOneTo999();
        pointsAre500AtMost();
        noPointsAtFirst();
    }

    private static void theTermsOfTheCurves() {
        theKeysOfAGrid();
        oneKeyForEachCell();
        theWeaveFromTheLowestBitToTheHighest();
        theTurnAtItsCornersAndItsMiddle();
        noOtherCurves();
        noOtherKeys();
    }

    private static void theTermsOfTheWindow() {
        theWindowAtFirst();
        theRunsAreAsLongAsTheyCanBe();
        theRunsHaveNoGaps();
    }

    private static void theChanges() {
        beginMakesANewGrid();
        beginRefused();
        putInTheSteadOfOne();
        putRefused();
        putWhereThereWouldBeMoreThan500();
        putInTheSteadOfOneOf500();
        takeWhereThereWasNone();
        takeTheLastOne();
        takeRefused();
        atWhereThereIsNone();
        manyFromNoneTo500();
        windowOfOneCellAndOfAll();
        windowRefused();
    }

    private static void theWindowsPoints() {
        insideAndSumAtTheEdges();
        insideAndSumOfNoneAndOf500();
        nthFromTheFirstToTheLast();
        nthWhenThereIsNoneSuch();
    }

    private static void theWindowsRuns() {
        runsOfUpTo4096Cells();
        runsOfMoreThan4096Cells();
        runFromTheFirstToTheLast();
        runWhenThereIsNoneSuch();
    }

    private static void theNearest() {
        nearestOfEquals();
        nearestByOneLess();
        nearestAtNoDistanceAndAtTheLargest();
        nearestWithoutPoints();
    }

    // What it is, and Terms: the grid

    private static void anObjectIsUsedFor512Calls() {
        sentence = "An object is used for at most 512 calls after it has been made";
        Counted index = crowded(15).make();
        while (index.left() > 1) {
            due("many()", index.many(), 500);
        }
        due("sum() as the 512th call", index.sum(), 500);
        due("calls that are left", index.left(), 0);
    }

    private static void theLevelsAreOneAtFirst() {
        sentence = "N being 1 .. 15 (1 at first)";
        dueSide(new Counted(), 2);
    }

    private static void theLevelsAreOneTo15() {
        sentence = "N being 1 .. 15";
        for (int n = 1; n <= 15; n++) {
            Counted index = new Counted();
            due("begin(" + n + ")", index.begin(n), 1);
            dueSide(index, 1 << n);
        }
        for (int n : NO_LEVELS) {
            stays(fresh(), "begin(" + n + ") of a new object", index -> index.begin(n), 0);
        }
    }

    private static void dueSide(Counted index, int side) {
        due("at(side - 1, side - 1), side " + side, index.at(side - 1, side - 1), 0);
        due("at(side, 0), side " + side, index.at(side, 0), NONE);
        due("at(0, side), side " + side, index.at(0, side), NONE);
        due("cell(0, side * side - 1), side " + side, index.cell(0, side * side - 1), side * side - 1);
        due("cell(0, side * side), side " + side, index.cell(0, side * side), NONE);
    }

    private static void theCellsOfAGrid() {
        sentence = "CELLS (x, y) with x and y of 0 .. 2^N - 1";
        for (int n = 1; n <= 15; n++) {
            int last = (1 << n) - 1;
            for (int[] c : new int[][] {{0, 0}, {0, last}, {last, 0}, {last, last}}) {
                Counted index = grid(n);
                String cell = "(" + c[0] + ", " + c[1] + ") on " + n;
                due("at" + cell, index.at(c[0], c[1]), 0);
                due("put" + cell, index.put(c[0], c[1], 5), 0);
                due("at" + cell, index.at(c[0], c[1]), 5);
                due("nearest" + cell, index.nearest(c[0], c[1]), (c[0] << n) + c[1]);
                due("window of " + cell, index.window(c[0], c[1], c[0], c[1]), 1);
                due("inside " + cell, index.inside(), 1);
                for (int curve = 0; curve < 2; curve++) {
                    long key = index.key(curve, c[0], c[1]);
                    due("run of " + cell, index.run(curve, 0, 0), key);
                    due("cell of the key of " + cell, index.cell(curve, (int) key), (c[0] << n) + c[1]);
                }
                due("take" + cell, index.take(c[0], c[1]), 5);
            }
        }
    }

    private static void noOtherCells() {
        sentence = "CELLS (x, y) with x and y of 0 .. 2^N - 1: no others";
        for (int n = 1; n <= 15; n++) {
            State state = few(n);
            for (int off : outside(n)) {
                for (int good : new int[] {0, (1 << n) - 1}) {
                    staysWithoutCell(state, off, good);
                    staysWithoutCell(state, good, off);
                    staysWithoutCell(state, off, off);
                }
            }
        }
    }

    private static void staysWithoutCell(State state, int x, int y) {
        String cell = "(" + x + ", " + y + ") on " + state.n;
        stays(state, "key 0 of " + cell, index -> index.key(0, x, y), NONE);
        stays(state, "key 1 of " + cell, index -> index.key(1, x, y), NONE);
        stays(state, "put" + cell, index -> index.put(x, y, 5), NONE);
        stays(state, "take" + cell, index -> index.take(x, y), NONE);
        stays(state, "at" + cell, index -> index.at(x, y), NONE);
        stays(state, "nearest" + cell, index -> index.nearest(x, y), NONE);
        stays(state, "window from " + cell, index -> index.window(x, y, state.last, state.last), 0);
        stays(state, "window to " + cell, index -> index.window(0, 0, x, y), 0);
        stays(state, "window of " + cell, index -> index.window(x, y, x, y), 0);
    }

    /** The first on either side, some that have the low bits of a good one, and the ends of the ints. */
    private static int[] outside(int n) {
        int side = 1 << n;
        return new int[] {-1, side, -side, side + 1, 2 * side, 65536, LEAST, LEAST + 1, MOST - 1, MOST};
    }

    private static void aCellIsToldAsOneNumber() {
        sentence = "told as one number x * 2^N + y";
        for (int n = 1; n <= 15; n++) {
            int side = 1 << n;
            int last = side - 1;
            dueNumber(n, 0, 0, 0);
            dueNumber(n, 0, last, last);
            dueNumber(n, 1, 0, side);
            dueNumber(n, last, 0, side * last);
            dueNumber(n, last, last, side * side - 1);
        }
    }

    private static void dueNumber(int n, int x, int y, long want) {
        Counted index = grid(n);
        index.put(x, y, 1);
        index.window(x, y, x, y);
        String cell = " of (" + x + ", " + y + ") on " + n;
        due("nearest" + cell, index.nearest(0, 0), want);
        for (int curve = 0; curve < 2; curve++) {
            due("nth" + cell, index.nth(curve, 0), want);
            due("cell" + cell, index.cell(curve, (int) index.key(curve, x, y)), want);
        }
    }

    private static void aWeightIsOneTo999() {
        sentence = "a WEIGHT, 1 .. 999";
        for (int weight : new int[] {1, 2, 998, 999}) {
            Counted index = grid(2);
            due("put(1, 2, " + weight + ")", index.put(1, 2, weight), 0);
            due("at(1, 2)", index.at(1, 2), weight);
            due("put(1, 2, 1) in its stead", index.put(1, 2, 1), weight);
            due("put(1, 2, " + weight + ") in its stead", index.put(1, 2, weight), 1);
            due("take(1, 2)", index.take(1, 2), weight);
        }
    }

    private static void pointsAre500AtMost() {
        sentence = "500 points at most";
        for (int n : new int[] {5, 15}) {
            Counted index = grid(n);
            for (int i = 0; i < 499; i++) {
                index.put(crowdX(n, i), crowdY(n, i), 1);
            }
            due("many()", index.many(), 499);
            due("the 500th put", index.put(crowdX(n, 499), crowdY(n, 499), 1), 0);
            due("many()", index.many(), 500);
            due("the 501st put", index.put(crowdX(n, 500), crowdY(n, 500), 1), NONE);
            due("many()", index.many(), 500);
        }
    }

    private static void noPointsAtFirst() {
        sentence = "none at first; A grid of four cells, without points";
        Counted index = new Counted();
        due("many()", index.many(), 0);
        for (int x = 0; x < 2; x++) {
            for (int y = 0; y < 2; y++) {
                due("at(" + x + ", " + y + ")", index.at(x, y), 0);
                due("nearest(" + x + ", " + y + ")", index.nearest(x, y), NONE);
                due("put(" + x + ", " + y + ", 1)", new Counted().put(x, y, 1), 0);
            }
        }
        due("window(0, 0, 1, 1)", index.window(0, 0, 1, 1), 1);
        due("inside()", index.inside(), 0);
        due("sum()", index.sum(), 0);
        due("nth(0, 0)", index.nth(0, 0), NONE);
        due("nth(1, 0)", index.nth(1, 0), NONE);
    }

    // Terms: the curves, and promises 3 and 4

    private static void theKeysOfAGrid() {
        sentence = "KEYS are 0 .. 4^N - 1";
        for (int n = 1; n <= 15; n++) {
            int side = 1 << n;
            int lastKey = (int) (fourTo(n) - 1);
            Counted index = grid(n);
            due("cell(0, 0) on " + n, index.cell(0, 0), 0);
            due("cell(1, 0) on " + n, index.cell(1, 0), 0);
            due("cell(0, the last key) on " + n, index.cell(0, lastKey), side * side - 1);
            due("cell(1, the last key) on " + n, index.cell(1, lastKey), side * (side - 1));
        }
    }

    private static void oneKeyForEachCell() {
        sentence = "KEYS .. one for each cell, by a CURVE";
        for (int n = 1; n <= 4; n++) {
            for (int curve = 0; curve < 2; curve++) {
                int side = 1 << n;
                boolean[] met = new boolean[side * side];
                Counted keys = grid(n);
                Counted cells = grid(n);
                for (int cell = 0; cell < side * side; cell++) {
                    int key = (int) keys.key(curve, cell / side, cell % side);
                    boolean isNew = key >= 0 && key < side * side && !met[key];
                    due("a new key for the cell " + cell + " on " + n, isNew ? 1 : 0, 1);
                    if (isNew) {
                        met[key] = true;
                    }
                    due("cell(" + curve + ", " + key + ") on " + n, cells.cell(curve, key), cell);
                }
            }
        }
    }

    private static void theWeaveFromTheLowestBitToTheHighest() {
        sentence = "4^i for each i for which bit i of x (bit 0 lowest) is 1, and 2 * 4^i for y";
        for (int n = 1; n <= 15; n++) {
            Counted index = grid(n);
            int last = (1 << n) - 1;
            for (int i = 0; i < n; i++) {
                due("bit " + i + " of x on " + n, index.key(0, 1 << i, 0), fourTo(i));
                due("bit " + i + " of y on " + n, index.key(0, 0, 1 << i), 2 * fourTo(i));
            }
            due("bit " + n + " of x on " + n, index.key(0, 1 << n, 0), NONE);
            due("bit " + n + " of y on " + n, index.key(0, 0, 1 << n), NONE);
            due("no bit on " + n, index.key(0, 0, 0), 0);
            due("all bits of x on " + n, index.key(0, last, 0), (fourTo(n) - 1) / 3);
            due("all bits of y on " + n, index.key(0, 0, last), 2 * (fourTo(n) - 1) / 3);
            due("all bits on " + n, index.key(0, last, last), fourTo(n) - 1);
        }
    }

    /**
     * By the document's words the key of a corner of a side is told by a corner of the half side, so
     * that a sum of powers of 4 remains; the cells round the middle are such corners too.
     */
    private static void theTurnAtItsCornersAndItsMiddle() {
        sentence = "THE TURN: both below s; x below s only; none below s; y below s only";
        for (int n = 1; n <= 15; n++) {
            Counted index = grid(n);
            int last = (1 << n) - 1;
            int s = 1 << n - 1;
            long quarter = fourTo(n - 1);
            due("key(1, 0, 0) on " + n, index.key(1, 0, 0), 0);
            due("key(1, 0, last) on " + n, index.key(1, 0, last), (fourTo(n) - 1) / 3);
            due("key(1, last, last) on " + n, index.key(1, last, last), 2 * (fourTo(n) - 1) / 3);
            due("key(1, last, 0) on " + n, index.key(1, last, 0), fourTo(n) - 1);
            due("key(1, s - 1, s - 1) on " + n, index.key(1, s - 1, s - 1), 2 * (quarter - 1) / 3);
            due("key(1, s - 1, s) on " + n, index.key(1, s - 1, s), 2 * quarter - 1);
            due("key(1, s, s) on " + n, index.key(1, s, s), 2 * quarter);
            due("key(1, s, s - 1) on " + n, index.key(1, s, s - 1), 3 * quarter + (quarter - 1) / 3);
        }
    }

    private static void noOtherCurves() {
        sentence = "NONE when there are none such: no such curve";
        for (State state : new State[] {fresh(), few(4), wide()}) {
            for (int curve : NO_CURVES) {
                stays(state, "key(" + curve + ", 0, 0)", index -> index.key(curve, 0, 0), NONE);
                stays(state, "cell(" + curve + ", 0)", index -> index.cell(curve, 0), NONE);
                stays(state, "nth(" + curve + ", 0)", index -> index.nth(curve, 0), NONE);
                stays(state, "runs(" + curve + ")", index -> index.runs(curve), NONE);
                stays(state, "run(" + curve + ", 0, 0)", index -> index.run(curve, 0, 0), NONE);
                stays(state, "run(" + curve + ", 0, 1)", index -> index.run(curve, 0, 1), NONE);
            }
        }
    }

    private static void noOtherKeys() {
        sentence = "The cell that has a key by a curve; NONE when there are none such";
        for (int n = 1; n <= 15; n++) {
            State state = few(n);
            int keys = (int) fourTo(n);
            for (int key : new int[] {-1, keys, -keys, keys + 1, keys + keys / 2, LEAST, LEAST + 1, MOST - 1, MOST}) {
                for (int curve = 0; curve < 2; curve++) {
                    int c = curve;
                    stays(state, "cell(" + c + ", " + key + ") on " + n, index -> index.cell(c, key), NONE);
                }
            }
        }
    }

    // Terms: the window

    private static void theWindowAtFirst() {
        sentence = "THE WINDOW .. at first the cell (0, 0)";
        for (int n = 0; n <= 15; n++) {
            Counted index = n == 0 ? new Counted() : grid(n);
            index.put(0, 1, 20);
            index.put(1, 0, 300);
            index.put(1, 1, 400);
            due("inside() on " + n, index.inside(), 0);
            due("sum() on " + n, index.sum(), 0);
            index.put(0, 0, 1);
            due("inside() on " + n, index.inside(), 1);
            due("sum() on " + n, index.sum(), 1);
            dueRuns(index, 0, 0, 0);
            dueRuns(index, 1, 0, 0);
        }
    }

    private static void theRunsAreAsLongAsTheyCanBe() {
        sentence = "rows without gaps, as long as they can be, from the least key on";
        dueRunsOfWindow(1, new int[] {0, 0, 1, 1}, new int[] {0, 3}, new int[] {0, 3});
        dueRunsOfWindow(1, new int[] {0, 1, 1, 1}, new int[] {2, 3}, new int[] {1, 2});
        for (int n = 1; n <= 6; n++) {
            int last = (1 << n) - 1;
            int[] all = {0, (int) fourTo(n) - 1};
            dueRunsOfWindow(n, new int[] {0, 0, last, last}, all, all);
        }
        for (int n = 2; n <= 15; n++) {
            int s = 1 << n - 1;
            int keys = (int) fourTo(n);
            int low = (int) ((fourTo(n - 1) - 1) / 3);
            // The turn steps from its second quarter into its third between these two; the weave does not.
            dueRunsOfWindow(n, new int[] {s - 1, s, s, s},
                new int[] {keys / 2 + low, keys / 2 + low, 3 * (keys / 4), 3 * (keys / 4)},
                new int[] {keys / 2 - 1, keys / 2});
            int last = (1 << n) - 1;
            dueRunsOfWindow(n, new int[] {last, last, last, last},
                new int[] {keys - 1, keys - 1}, new int[] {2 * ((keys - 1) / 3), 2 * ((keys - 1) / 3)});
        }
    }

    private static void theRunsHaveNoGaps() {
        sentence = "the keys of its cells make rows without gaps";
        dueRunsOfWindow(1, new int[] {0, 0, 0, 1}, new int[] {0, 0, 2, 2}, new int[] {0, 1});
        dueRunsOfWindow(1, new int[] {0, 0, 1, 0}, new int[] {0, 1}, new int[] {0, 0, 3, 3});
        dueRunsOfWindow(1, new int[] {1, 0, 1, 1}, new int[] {1, 1, 3, 3}, new int[] {2, 3});
        dueRunsOfWindow(2, new int[] {0, 0, 0, 3}, new int[] {0, 0, 2, 2, 8, 8, 10, 10}, new int[] {0, 0, 3, 5});
        dueRunsOfWindow(2, new int[] {1, 1, 2, 2}, new int[] {3, 3, 6, 6, 9, 9, 12, 12}, new int[] {2, 2, 7, 8, 13, 13});
        dueRunsOfWindow(2, new int[] {0, 0, 2, 3}, new int[] {0, 4, 6, 6, 8, 12, 14, 14}, new int[] {0, 9, 13, 14});
    }

    private static void dueRunsOfWindow(int n, int[] w, int[] weaveEnds, int[] turnEnds) {
        Counted index = grid(n);
        due("window on " + n, index.window(w[0], w[1], w[2], w[3]), 1);
        dueRuns(index, 0, weaveEnds);
        dueRuns(index, 1, turnEnds);
    }

    private static void dueRuns(Counted index, int curve, int... ends) {
        due("runs(" + curve + ")", index.runs(curve), ends.length / 2);
        for (int i = 0; i < ends.length; i++) {
            due("run(" + curve + ", " + i / 2 + ", " + i % 2 + ")", index.run(curve, i / 2, i % 2), ends[i]);
        }
        due("run(" + curve + ", -1, 0)", index.run(curve, -1, 0), NONE);
        due("run(" + curve + ", " + ends.length / 2 + ", 0)", index.run(curve, ends.length / 2, 0), NONE);
        due("run(" + curve + ", " + ends.length / 2 + ", 1)", index.run(curve, ends.length / 2, 1), NONE);
    }

    // Promises 2, 5 to 9: the calls that change something

    private static void beginMakesANewGrid() {
        sentence = "A new grid of side 2^n, without points; the window is the cell (0, 0)";
        for (State state : new State[] {fresh(), few(4), few(15), crowded(5), wide()}) {
            for (int n : new int[] {1, state.n, 15}) {
                due("what is seen after begin(" + n + ")", look(n, 3, state, index -> index.begin(n), 1),
                    look(n, 3, fresh(), index -> index.begin(n), 1));
            }
        }
        Counted full = crowded(15).make();
        due("begin(15) with 500 points", full.begin(15), 1);
        due("many()", full.many(), 0);
        due("put of a point that was there", full.put(0, 0, 1), 0);
    }

    private static void beginRefused() {
        sentence = "(Refused, points and window stay.) .. false when n is not 1 .. 15";
        for (State state : new State[] {few(1), few(4), few(15), wide()}) {
            for (int n : NO_LEVELS) {
                stays(state, "begin(" + n + ")", index -> index.begin(n), 0);
            }
        }
        stays(crowded(5), "begin(0) with 500 points", index -> index.begin(0), 0);
        stays(crowded(5), "begin(16) with 500 points", index -> index.begin(16), 0);
    }

    private static void putInTheSteadOfOne() {
        sentence = "in the stead of one that was there. Answers that one's weight, 0 when there was none";
        Counted index = grid(3);
        due("put(2, 5, 7)", index.put(2, 5, 7), 0);
        due("put(2, 5, 7) of the same weight", index.put(2, 5, 7), 7);
        due("put(2, 5, 8)", index.put(2, 5, 8), 7);
        due("put(5, 2, 9) beside it", index.put(5, 2, 9), 0);
        due("many()", index.many(), 2);
        due("at(2, 5)", index.at(2, 5), 8);
        due("take(2, 5)", index.take(2, 5), 8);
        due("put(2, 5, 3) where it has gone", index.put(2, 5, 3), 0);
        index.window(0, 0, 7, 7);
        due("inside()", index.inside(), 2);
        due("sum()", index.sum(), 12);
    }

    private static void putRefused() {
        sentence = "NONE when .. the weight is not 1 .. 999";
        for (State state : new State[] {fresh(), few(4), few(15)}) {
            for (int weight : NO_WEIGHTS) {
                stays(state, "put(0, 0, " + weight + ")", index -> index.put(0, 0, weight), NONE);
                stays(state, "put(1, 1, " + weight + ")", index -> index.put(1, 1, weight), NONE);
                stays(state, "put(-1, 0, " + weight + ")", index -> index.put(-1, 0, weight), NONE);
            }
        }
        for (int weight : new int[] {0, 1000}) {
            stays(crowded(5), "put(0, 0, " + weight + ") of 500", index -> index.put(0, 0, weight), NONE);
            stays(crowded(5), "put(0, 1, " + weight + ") of 500", index -> index.put(0, 1, weight), NONE);
        }
    }

    private static void putWhereThereWouldBeMoreThan500() {
        sentence = "NONE when .. there would be more than 500";
        for (int n : new int[] {5, 15}) {
            // Their keys lie between those of the 500, and after them all by the weave.
            int last = (1 << n) - 1;
            stays(crowded(n), "put(0, 1, 5) on " + n, index -> index.put(0, 1, 5), NONE);
            stays(crowded(n), "put(1, 1, 5) on " + n, index -> index.put(1, 1, 5), NONE);
            stays(crowded(n), "put(last, last, 5) on " + n, index -> index.put(last, last, 5), NONE);
            stays(crowded(n), "put(last, 1, 5) on " + n, index -> index.put(last, 1, 5), NONE);
        }
        Counted index = crowded(15).make();
        due("take(0, 0) of 500", index.take(0, 0), 1);
        due("put(1, 1, 5) of 500", index.put(1, 1, 5), 0);
        due("put(0, 0, 5) of 501", index.put(0, 0, 5), NONE);
        due("at(0, 0)", index.at(0, 0), 0);
        due("at(1, 1)", index.at(1, 1), 5);
        due("many()", index.many(), 500);
    }

    private static void putInTheSteadOfOneOf500() {
        sentence = "(Where one is in its stead there are not more.)";
        for (int n : new int[] {5, 15}) {
            for (int i : new int[] {0, 1, 250, 498, 499}) {
                int x = crowdX(n, i);
                int y = crowdY(n, i);
                Counted index = crowded(n).make();
                due("put in the stead of point " + i, index.put(x, y, 999), 1);
                due("at", index.at(x, y), 999);
                due("many()", index.many(), 500);
                due("window of all", index.window(0, 0, (1 << n) - 1, (1 << n) - 1), 1);
                due("inside()", index.inside(), 500);
                due("sum()", index.sum(), 499 + 999);
                due("nearest to it", index.nearest(x, y), (x << n) + y);
            }
        }
    }

    private static void takeWhereThereWasNone() {
        sentence = "A cell's point goes. Answers its weight; 0 when there was none";
        stays(fresh(), "take(0, 0)", index -> index.take(0, 0), 0);
        for (int n = 2; n <= 15; n++) {
            int last = (1 << n) - 1;
            stays(few(n), "take(0, 1) on " + n, index -> index.take(0, 1), 0);
            stays(few(n), "take(1, 0) on " + n, index -> index.take(1, 0), 0);
            stays(few(n), "take(last, last - 1) on " + n, index -> index.take(last, last - 1), 0);
        }
        stays(crowded(5), "take(0, 1) of 500", index -> index.take(0, 1), 0);
        stays(crowded(5), "take(31, 31) of 500", index -> index.take(31, 31), 0);
    }

    private static void takeTheLastOne() {
        sentence = "A cell's point goes";
        Counted index = grid(4);
        for (int i = 0; i < 250; i++) {
            index.put(i / 16, i % 16, 1 + i);
        }
        index.window(0, 0, 15, 15);
        for (int i = 0; i < 250; i++) {
            // From both ends and the middle of the rows in which the points may stand.
            int cell = i * 77 % 250;
            due("take of cell " + cell, index.take(cell / 16, cell % 16), 1 + cell);
        }
        due("take again", index.take(0, 0), 0);
        due("many()", index.many(), 0);
        due("inside()", index.inside(), 0);
        due("sum()", index.sum(), 0);
        due("nth(0, 0)", index.nth(0, 0), NONE);
        due("nth(1, 0)", index.nth(1, 0), NONE);
        due("nearest(0, 0)", index.nearest(0, 0), NONE);

        for (int i : new int[] {0, 250, 499}) {
            Counted full = crowded(5).make();
            due("take of point " + i + " of 500", full.take(crowdX(5, i), crowdY(5, i)), 1);
            due("at", full.at(crowdX(5, i), crowdY(5, i)), 0);
            due("many()", full.many(), 499);
            full.window(0, 0, 31, 31);
            due("inside()", full.inside(), 499);
            due("nth(0, 499)", full.nth(0, 499), NONE);
            due("nth(1, 499)", full.nth(1, 499), NONE);
        }
    }

    private static void takeRefused() {
        sentence = "take: NONE when there is no such cell";
        for (int off : outside(5)) {
            stays(crowded(5), "take(" + off + ", 0) of 500", index -> index.take(off, 0), NONE);
            stays(crowded(5), "take(0, " + off + ") of 500", index -> index.take(0, off), NONE);
        }
    }

    private static void atWhereThereIsNone() {
        sentence = "The weight of a cell's point; 0 when there is none, NONE when there is no such cell";
        stays(fresh(), "at(1, 1)", index -> index.at(1, 1), 0);
        stays(few(4), "at(0, 0)", index -> index.at(0, 0), 1);
        stays(few(4), "at(0, 1)", index -> index.at(0, 1), 0);
        stays(few(4), "at(1, 0)", index -> index.at(1, 0), 0);
        stays(few(4), "at(15, 15)", index -> index.at(15, 15), 999);
        stays(few(4), "at(15, 14)", index -> index.at(15, 14), 0);
        // As one number these would be the cells (1, 0), (0, 15) and (15, 15).
        stays(few(4), "at(0, 16)", index -> index.at(0, 16), NONE);
        stays(few(4), "at(1, -1)", index -> index.at(1, -1), NONE);
        stays(few(4), "at(16, -1)", index -> index.at(16, -1), NONE);
    }

    private static void manyFromNoneTo500() {
        sentence = "How many points there are";
        stays(fresh(), "many()", index -> index.many(), 0);
        stays(few(1), "many()", index -> index.many(), 4);
        stays(crowded(15), "many()", index -> index.many(), 500);
        Counted index = grid(15);
        for (int i = 0; i < 250; i++) {
            index.put(crowdX(15, i), crowdY(15, i), 999);
            due("many()", index.many(), i + 1);
        }
    }

    private static void windowOfOneCellAndOfAll() {
        sentence = "The window becomes another one. Answers true";
        for (int n = 1; n <= 15; n++) {
            int last = (1 << n) - 1;
            int[][] windows = {{0, 0, 0, 0}, {last, last, last, last}, {0, 0, last, last}, {0, last, last, last},
                {last, 0, last, last}, {0, 0, last, 0}, {0, 0, 0, last}};
            int[] points = {1, 1, 4, 2, 2, 2, 2};
            Counted index = grid(n);
            for (int[] corner : new int[][] {{0, 0}, {0, last}, {last, 0}, {last, last}}) {
                index.put(corner[0], corner[1], 1);
            }
            for (int i = 0; i < windows.length; i++) {
                int[] w = windows[i];
                due("window " + i + " on " + n, index.window(w[0], w[1], w[2], w[3]), 1);
                due("inside() window " + i + " on " + n, index.inside(), points[i]);
            }
        }
    }

    private static void windowRefused() {
        sentence = "false when there are no such cells, or x1 is below x0, or y1 below y0";
        for (int n = 1; n <= 15; n++) {
            int last = (1 << n) - 1;
            State state = few(n);
            int[][] below = {{1, 0, 0, 0}, {0, 1, 0, 0}, {1, 1, 0, 0}, {1, 0, 0, last}, {0, 1, last, 0},
                {last, 0, last - 1, last}, {0, last, last, last - 1}, {last, last, 0, 0}, {last, 0, 0, last}};
            for (int[] w : below) {
                staysWindow(state, w);
            }
            for (int off : outside(n)) {
                // Each of the four alone is wrong, from the smallest and from the largest window.
                for (int place = 0; place < 4; place++) {
                    int[] all = {0, 0, last, last};
                    int[] one = {last, last, last, last};
                    all[place] = off;
                    one[place] = off;
                    staysWindow(state, all);
                    staysWindow(state, one);
                }
            }
        }
        staysWindow(crowded(5), new int[] {0, 0, 32, 31});
        staysWindow(crowded(5), new int[] {0, 1, 31, 0});
    }

    private static void staysWindow(State state, int[] w) {
        stays(state, "window(" + w[0] + ", " + w[1] + ", " + w[2] + ", " + w[3] + ") on " + state.n,
            index -> index.window(w[0], w[1], w[2], w[3]), 0);
    }

    // Promises 10 to 12: the window's points

    private static void insideAndSumAtTheEdges() {
        sentence = "THE WINDOW are the cells with x of x0 .. x1 and y of y0 .. y1";
        int[][] in = {{4, 5}, {4, 9}, {8, 5}, {8, 9}, {4, 7}, {8, 7}, {6, 5}, {6, 9}};
        int[][] out = {{3, 5}, {4, 4}, {3, 9}, {4, 10}, {9, 5}, {8, 4}, {9, 9}, {8, 10}, {3, 7}, {9, 7}, {6, 4}, {6, 10}};
        for (int[] cell : in) {
            dueInside(cell, 1);
        }
        for (int[] cell : out) {
            dueInside(cell, 0);
        }
    }

    private static void dueInside(int[] cell, int want) {
        Counted index = grid(4);
        index.window(4, 5, 8, 9);
        index.put(cell[0], cell[1], 7);
        String where = " with a point in (" + cell[0] + ", " + cell[1] + ")";
        due("inside()" + where, index.inside(), want);
        due("sum()" + where, index.sum(), 7 * want);
        for (int curve = 0; curve < 2; curve++) {
            due("nth(" + curve + ", 0)" + where, index.nth(curve, 0), want == 1 ? 16 * cell[0] + cell[1] : NONE);
            due("nth(" + curve + ", 1)" + where, index.nth(curve, 1), NONE);
        }
    }

    private static void insideAndSumOfNoneAndOf500() {
        sentence = "How many points the window has; The sum of their weights";
        stays(fresh(), "inside()", index -> index.inside(), 0);
        stays(fresh(), "sum()", index -> index.sum(), 0);
        Counted index = grid(15);
        for (int i = 0; i < 500; i++) {
            index.put(crowdX(15, i), crowdY(15, i), 999);
        }
        index.window(1, 1, 1, 1);
        due("inside() of none", index.inside(), 0);
        due("sum() of none", index.sum(), 0);
        index.window(0, 0, 32767, 32767);
        due("inside() of 500", index.inside(), 500);
        due("sum() of 500", index.sum(), 499500);
    }

    private static void nthFromTheFirstToTheLast() {
        sentence = "The cell of the i-th (from 0 on) of the window's points by the keys of a curve";
        int[] weave = {0, 2, 1, 3};
        int[] turn = {0, 1, 3, 2};
        Counted index = new Counted();
        for (int cell = 3; cell >= 0; cell--) {
            index.put(cell / 2, cell % 2, 5);
        }
        index.window(0, 0, 1, 1);
        for (int i = 0; i < 4; i++) {
            due("nth(0, " + i + ")", index.nth(0, i), weave[i]);
            due("nth(1, " + i + ")", index.nth(1, i), turn[i]);
        }
        due("nth(0, 4)", index.nth(0, 4), NONE);
        due("nth(1, 4)", index.nth(1, 4), NONE);

        // The points stand in the even cells 0 .. 998 of a side of 32: the first and last keys are worked out from bits.
        Counted full = crowded(5).make();
        full.window(0, 0, 31, 31);
        due("nth(0, 0) of 500", full.nth(0, 0), 0);
        due("nth(1, 0) of 500", full.nth(1, 0), 0);
        due("nth(0, 500) of 500", full.nth(0, 500), NONE);
        due("nth(1, 500) of 500", full.nth(1, 500), NONE);
        // Of (30, 30) and (31, 0 .. 6) the weave's largest; of the row x = 31 the turn's last is (31, 0).
        due("nth(0, 499) of 500", full.nth(0, 499), 30 * 32 + 30);
        due("nth(1, 499) of 500", full.nth(1, 499), 31 * 32);
    }

    private static void nthWhenThereIsNoneSuch() {
        sentence = "nth: NONE when there is none such";
        for (State state : new State[] {fresh(), few(1), few(4), few(15), wide()}) {
            int inside = (int) state.make().inside();
            for (int curve = 0; curve < 2; curve++) {
                int c = curve;
                for (int i : new int[] {-1, inside, inside + 1, 500, 65536, LEAST, LEAST + 1, MOST - 1, MOST}) {
                    stays(state, "nth(" + c + ", " + i + ") of " + inside, index -> index.nth(c, i), NONE);
                }
            }
        }
    }

    // Promises 13 and 14: the window's runs

    private static void runsOfUpTo4096Cells() {
        sentence = "NONE when it has more than 4096 cells: up to 4096";
        // The weave's keys of a line of y are even, so none are neighbours; those of a line of x are in pairs.
        dueRunsCount(new int[] {0, 0, 0, 4094}, 4095);
        dueRunsCount(new int[] {0, 0, 0, 4095}, 4096);
        dueRunsCount(new int[] {0, 0, 4094, 0}, 2048);
        dueRunsCount(new int[] {0, 0, 4095, 0}, 2048);
        dueRunsCount(new int[] {0, 28672, 0, 32767}, 4096);
        dueRunsCount(new int[] {28672, 32767, 32767, 32767}, 2048);
        dueRunsCount(new int[] {0, 0, 63, 63}, 1);
        dueRunsCount(new int[] {32704, 32704, 32767, 32767}, 1);
        dueRunsCount(new int[] {0, 0, 127, 31}, 2);
        dueRunsCount(new int[] {0, 0, 31, 127}, 4);
    }

    private static void dueRunsCount(int[] w, int want) {
        Counted index = grid(15);
        String cells = " of " + (w[2] - w[0] + 1) + " * " + (w[3] - w[1] + 1) + " cells";
        due("window" + cells, index.window(w[0], w[1], w[2], w[3]), 1);
        due("runs(0)" + cells, index.runs(0), want);
        due("run(0, 0, 0)" + cells, index.run(0, 0, 0), index.key(0, w[0], w[1]));
        due("run(0, last, 1)" + cells, index.run(0, want - 1, 1), index.key(0, w[2], w[3]));
        due("run(0, runs, 0)" + cells, index.run(0, want, 0), NONE);
        due("run(0, runs, 1)" + cells, index.run(0, want, 1), NONE);
        int turnRuns = (int) index.runs(1);
        due("runs(1) is some" + cells, turnRuns > 0 ? 1 : 0, 1);
        due("run(1, last, 1) is some" + cells, index.run(1, turnRuns - 1, 1) >= 0 ? 1 : 0, 1);
        due("run(1, runs, 0)" + cells, index.run(1, turnRuns, 0), NONE);
    }

    private static void runsOfMoreThan4096Cells() {
        sentence = "NONE when it has more than 4096 cells";
        dueNoRuns(15, new int[] {0, 0, 0, 4096});
        dueNoRuns(15, new int[] {0, 0, 4096, 0});
        dueNoRuns(15, new int[] {0, 0, 16, 240});
        dueNoRuns(15, new int[] {7, 7, 247, 23});
        dueNoRuns(15, new int[] {0, 0, 63, 64});
        dueNoRuns(15, new int[] {0, 0, 64, 63});
        dueNoRuns(7, new int[] {0, 0, 127, 127});
        // With 65536 and 2^30 cells a count in too few bits would come back to 0.
        dueNoRuns(8, new int[] {0, 0, 255, 255});
        dueNoRuns(15, new int[] {0, 0, 32767, 32767});
        dueNoRuns(15, new int[] {0, 0, 32767, 0});
        dueNoRuns(15, new int[] {0, 0, 0, 32767});
    }

    private static void dueNoRuns(int n, int[] w) {
        State state = new State(n, 1, index -> {
            index.begin(n);
            index.put(0, 0, 3);
            index.window(w[0], w[1], w[2], w[3]);
        });
        String cells = " of " + (w[2] - w[0] + 1) + " * " + (w[3] - w[1] + 1) + " cells";
        for (int curve = 0; curve < 2; curve++) {
            int c = curve;
            stays(state, "runs(" + c + ")" + cells, index -> index.runs(c), NONE);
            for (int i : new int[] {-1, 0, 1}) {
                stays(state, "run(" + c + ", " + i + ", 0)" + cells, index -> index.run(c, i, 0), NONE);
                stays(state, "run(" + c + ", " + i + ", 1)" + cells, index -> index.run(c, i, 1), NONE);
            }
            // The other questions about the window have no such limit.
            stays(state, "inside()" + cells, index -> index.inside(), w[0] == 0 ? 1 : 0);
            stays(state, "nth(" + c + ", 0)" + cells, index -> index.nth(c, 0), w[0] == 0 ? 0 : NONE);
        }
    }

    private static void runFromTheFirstToTheLast() {
        sentence = "The first (which = 0) or last (1) key of the i-th run, from 0 on";
        dueRunsOfWindow(2, new int[] {1, 0, 3, 2}, new int[] {1, 1, 3, 7, 9, 9, 12, 13}, new int[] {1, 2, 7, 8, 11, 15});
        dueRunsOfWindow(2, new int[] {0, 0, 1, 3}, new int[] {0, 3, 8, 11}, new int[] {0, 7});
        dueRunsOfWindow(2, new int[] {0, 0, 3, 1}, new int[] {0, 7}, new int[] {0, 3, 12, 15});
    }

    private static void runWhenThereIsNoneSuch() {
        sentence = "run: NONE likewise, and when there is none such";
        for (State state : new State[] {fresh(), few(1), few(4), few(15)}) {
            for (int curve = 0; curve < 2; curve++) {
                int c = curve;
                int runs = (int) state.make().runs(c);
                for (int i : new int[] {-1, runs, runs + 1, 4096, 65536, LEAST, LEAST + 1, MOST - 1, MOST}) {
                    stays(state, "run(" + c + ", " + i + ", 0) of " + runs, index -> index.run(c, i, 0), NONE);
                    stays(state, "run(" + c + ", " + i + ", 1) of " + runs, index -> index.run(c, i, 1), NONE);
                }
                for (int which : NO_WHICH) {
                    stays(state, "run(" + c + ", 0, " + which + ")", index -> index.run(c, 0, which), NONE);
                }
            }
        }
    }

    // Promise 15

    private static void nearestOfEquals() {
        sentence = "Of the points whose distance from a cell is least the one with the least key by curve 1";
        // By the turn (1, 0), (0, 1), (1, 2), (2, 1) have the keys 1, 3, 7, 13; by the weave 1, 2, 9, 6.
        Counted index = grid(2);
        index.put(2, 1, 1);
        index.put(1, 2, 999);
        index.put(0, 1, 1);
        index.put(1, 0, 999);
        int[] due = {4, 1, 6, 9};
        for (int cell : due) {
            due("nearest(1, 1)", index.nearest(1, 1), cell);
            due("take of it", index.take(cell / 4, cell % 4) > 0 ? 1 : 0, 1);
        }
        due("nearest(1, 1) when all are taken", index.nearest(1, 1), NONE);
    }

    private static void nearestByOneLess() {
        sentence = "whose distance .. is least (by the squares of what x and y differ, added)";
        Counted index = grid(2);
        index.put(0, 0, 1);
        due("nearest(1, 1) of one at 2", index.nearest(1, 1), 0);
        index.put(2, 1, 1);
        due("nearest(1, 1) of 2 and 1", index.nearest(1, 1), 9);
        index.put(1, 1, 1);
        due("nearest(1, 1) of 2, 1 and 0", index.nearest(1, 1), 5);

        Counted squares = grid(3);
        squares.put(3, 4, 1);
        squares.put(0, 5, 1);
        // 9 + 16 and 25 are equal: the turn's keys are 31 and 19.
        due("nearest(0, 0) of 25 and 25", squares.nearest(0, 0), 5);
        squares.put(4, 2, 1);
        due("nearest(0, 0) of 25 and 16 + 4", squares.nearest(0, 0), 34);
    }

    private static void nearestAtNoDistanceAndAtTheLargest() {
        sentence = "nearest: the least and the largest distance";
        Counted index = grid(15);
        index.put(32767, 32767, 1);
        due("nearest(32767, 32767)", index.nearest(32767, 32767), (1 << 30) - 1);
        due("nearest(0, 0) at the largest distance", index.nearest(0, 0), (1 << 30) - 1);
        index.put(32767, 32766, 1);
        due("nearest(0, 0) by one less", index.nearest(0, 0), (1 << 30) - 2);
        due("nearest(32767, 32767)", index.nearest(32767, 32767), (1 << 30) - 1);
        index.put(0, 0, 1);
        due("nearest(0, 0) itself", index.nearest(0, 0), 0);
        due("nearest(32767, 0) at sides of the largest length", index.nearest(32767, 0), (1 << 30) - 2);
    }

    private static void nearestWithoutPoints() {
        sentence = "nearest: NONE when there are no points, or no such cell";
        stays(fresh(), "nearest(0, 0)", index -> index.nearest(0, 0), NONE);
        stays(fresh(), "nearest(1, 1)", index -> index.nearest(1, 1), NONE);
        stays(fresh(), "nearest(2, 0)", index -> index.nearest(2, 0), NONE);
        Counted index = few(15).make();
        index.begin(15);
        due("nearest(0, 0) after begin", index.nearest(0, 0), NONE);
        index.put(3, 3, 1);
        due("nearest(0, 0) of one", index.nearest(0, 0), (3 << 15) + 3);
        index.take(3, 3);
        due("nearest(0, 0) after take", index.nearest(0, 0), NONE);
        for (int off : outside(5)) {
            stays(crowded(5), "nearest(" + off + ", 0) of 500", full -> full.nearest(off, 0), NONE);
            stays(crowded(5), "nearest(0, " + off + ") of 500", full -> full.nearest(0, off), NONE);
        }
    }

    private static void argumentsMayBeAnyInts() {
        sentence = "A call that is refused changes nothing (arguments of all sorts together)";
        int[] ints = {LEAST, -1, 0, 1, 15, 16, MOST};
        State state = few(4);
        for (int a : ints) {
            for (int b : ints) {
                anyTwo(state, a, b);
                for (int c : ints) {
                    anyThree(state, a, b, c);
                    for (int d : ints) {
                        if (!isCell(a, b) || !isCell(c, d) || c < a || d < b) {
                            staysWindow(state, new int[] {a, b, c, d});
                        }
                    }
                }
            }
        }
    }

    private static boolean isCell(int x, int y) {
        return x >= 0 && x < 16 && y >= 0 && y < 16;
    }

    private static void anyTwo(State state, int a, int b) {
        if (!isCell(a, b)) {
            staysWithoutCell(state, a, b);
        }
        if (a != 0 && a != 1 || b < 0) {
            stays(state, "cell(" + a + ", " + b + ")", index -> index.cell(a, b), NONE);
            stays(state, "nth(" + a + ", " + b + ")", index -> index.nth(a, b), NONE);
        }
    }

    private static void anyThree(State state, int a, int b, int c) {
        String of = "(" + a + ", " + b + ", " + c + ")";
        if (a != 0 && a != 1 || !isCell(b, c)) {
            stays(state, "key" + of, index -> index.key(a, b, c), NONE);
        }
        if (!isCell(a, b) || c < 1 || c > 999) {
            stays(state, "put" + of, index -> index.put(a, b, c), NONE);
        }
        if (a != 0 && a != 1 || b < 0 || c != 0 && c != 1) {
            stays(state, "run" + of, index -> index.run(a, b, c), NONE);
        }
    }

    // States to start from

    private static State fresh() {
        return new State(1, 0, index -> { });
    }

    /** Points in the corners and at the middle, and a window that cuts some of them off; (0, 1) and (1, 0) are free from 2 on. */
    private static State few(int n) {
        int last = (1 << n) - 1;
        int s = 1 << n - 1;
        return new State(n, n == 1 ? 4 : 6, index -> {
            index.begin(n);
            index.put(last, 0, 300);
            index.put(0, last, 20);
            index.put(last, last, 999);
            index.put(0, 0, 1);
            if (n > 1) {
                index.put(s, s, 50);
                index.put(s - 1, s, 60);
            }
            index.window(s - 1, s - 1, s, Math.min(last, s + 3));
        });
    }

    /** A window of more cells than runs may have. */
    private static State wide() {
        return new State(15, 2, index -> {
            index.begin(15);
            index.put(0, 0, 5);
            index.put(32767, 32767, 6);
            index.window(0, 0, 32767, 32767);
        });
    }

    private static State crowded(int n) {
        return new State(n, 500, index -> {
            index.begin(n);
            for (int i = 0; i < 500; i++) {
                index.put(crowdX(n, i), crowdY(n, i), 1);
            }
            index.window(0, 0, (1 << n) - 1, (1 << n) - 1);
        });
    }

    /** On a side of 32 the points stand in every other cell, so that 500 still leave free ones between them. */
    private static int crowdX(int n, int i) {
        return n == 5 ? 2 * i / 32 : 64 * i;
    }

    private static int crowdY(int n, int i) {
        return n == 5 ? 2 * i % 32 : i * 7919 % 32768;
    }

    private static Counted grid(int n) {
        Counted index = new Counted();
        due("begin(" + n + ")", index.begin(n), 1);
        return index;
    }

    private static long fourTo(int n) {
        return 1L << 2 * n;
    }

    // Looks at an object

    /** The call answers what is due, and the looks after it see what they see without it. */
    private static void stays(State state, String call, Call refused, long want) {
        List<Long> without = look(state.n, state.points, state, index -> 0, 0);
        List<Long> with = look(state.n, state.points, state, index -> answers(call, refused.on(index), want), 0);
        due("what is seen after " + call, with, without);
    }

    private static long answers(String call, long got, long want) {
        due(call, got, want);
        return 0;
    }

    /** An object has 512 calls only: a long look goes on with another one on which the same was done. */
    private static List<Long> look(int n, int points, State state, Call call, long want) {
        List<Long> seen = new ArrayList<>();
        Counted index = null;
        for (Call look : looks(n, points)) {
            if (index == null || index.left() < DEAREST_LOOK) {
                index = state.make();
                due("the call before a look", call.on(index), want);
            }
            seen.add(look.on(index));
        }
        return seen;
    }

    /** Every point of a few; of 500 a sample, for a point that came or went moves all the places after its own. */
    private static List<Call> looks(int n, int points) {
        int last = (1 << n) - 1;
        List<Call> looks = new ArrayList<>();
        looks.add(Counted::many);
        looks.add(Counted::inside);
        looks.add(Counted::sum);
        for (int m = 1; m <= 15; m++) {
            int x = (1 << m) - 1;
            looks.add(index -> index.at(x, 0));
        }
        for (int curve = 0; curve < 2; curve++) {
            addLooksAtTheWindow(looks, curve);
        }
        looks.add(index -> index.nearest(0, 0));
        looks.add(index -> index.nearest(last, last));
        looks.add(index -> index.nearest(last, 0));
        looks.add(index -> index.nearest(last / 2, last / 2));
        // These change the window themselves, so they come last.
        for (int i = 0; i <= points; i += points < 100 ? 1 : 25) {
            addLooksAtAPoint(looks, last, i);
        }
        addLooksAtAPoint(looks, last, points - 1);
        return looks;
    }

    private static void addLooksAtTheWindow(List<Call> looks, int curve) {
        looks.add(index -> index.runs(curve));
        for (int i = 0; i < 4; i++) {
            int place = i;
            looks.add(index -> index.nth(curve, place));
            looks.add(index -> index.run(curve, place, 0));
            looks.add(index -> index.run(curve, place, 1));
        }
    }

    private static void addLooksAtAPoint(List<Call> looks, int last, int place) {
        looks.add(index -> nthOfAll(index, 0, last, place));
        looks.add(index -> nthOfAll(index, 1, last, place));
        looks.add(index -> {
            long cell = nthOfAll(index, 1, last, place);
            return index.at((int) cell / (last + 1), (int) cell % (last + 1));
        });
    }

    private static long nthOfAll(Counted index, int curve, int last, int place) {
        index.window(0, 0, last, last);
        return index.nth(curve, place);
    }

    private static void due(String call, Object got, Object want) {
        checks++;
        if (!got.equals(want)) {
            wrong++;
            if (wrong <= 40) {
                System.out.println("'" + sentence + "': " + call + " answered " + got + ", due is " + want);
            }
        }
    }

    private static void due(String call, long got, long want) {
        due(call, (Object) got, (Object) want);
    }

    private interface Call {
        long on(Counted index);
    }

    private interface Calls {
        void on(Counted index);
    }

    /** What some calls make of a new object. */
    private static final class State {
        final int n;
        final int last;
        final int points;
        final Calls calls;

        State(int n, int points, Calls calls) {
            this.n = n;
            this.last = (1 << n) - 1;
            this.points = points;
            this.calls = calls;
        }

        Counted make() {
            Counted index = new Counted();
            calls.on(index);
            return index;
        }
    }

    /** The class under test, for as many calls as the document allows; a boolean counts 1 or 0. */
    private static final class Counted {
        private final CurveIndex index = new CurveIndex();
        private int calls = 0;

        int left() {
            return MOST_CALLS - calls;
        }

        private CurveIndex next() {
            calls++;
            if (calls > MOST_CALLS) {
                throw new IllegalStateException("a test uses an object for more than " + MOST_CALLS + " calls");
            }
            return index;
        }

        long begin(int n) {
            return next().begin(n) ? 1 : 0;
        }

        long key(int curve, int x, int y) {
            return next().key(curve, x, y);
        }

        long cell(int curve, int key) {
            return next().cell(curve, key);
        }

        long put(int x, int y, int weight) {
            return next().put(x, y, weight);
        }

        long take(int x, int y) {
            return next().take(x, y);
        }

        long at(int x, int y) {
            return next().at(x, y);
        }

        long many() {
            return next().many();
        }

        long window(int x0, int y0, int x1, int y1) {
            return next().window(x0, y0, x1, y1) ? 1 : 0;
        }

        long inside() {
            return next().inside();
        }

        long sum() {
            return next().sum();
        }

        long nth(int curve, int i) {
            return next().nth(curve, i);
        }

        long runs(int curve) {
            return next().runs(curve);
        }

        long run(int curve, int i, int which) {
            return next().run(curve, i, which);
        }

        long nearest(int x, int y) {
            return next().nearest(x, y);
        }
    }
}
