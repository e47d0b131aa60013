/**
 * Points with weights on a square grid, in the order of two curves that run
 * through all its cells.
 *
 * Both curves go through a square quarter by quarter, so one walk serves both:
 * from the whole grid down, each step takes two bits of the key and one bit
 * each of x and y. Only the order of the quarters differs, and it is told by a
 * STATE: 0 to 3 are the ways in which the turn may lie in a square (1 is added
 * where x and y are exchanged, 2 where both are counted backwards), 4 is the
 * weave, which lies the same way everywhere.
 */
public final class CurveIndex {
    public static final int NONE = -1;

    private static final int WEAVE = 0;
    private static final int TURN = 1;

    private static final int MOST_LEVELS = 15;
    private static final int MOST_POINTS = 500;
    private static final int MOST_WEIGHT = 999;
    private static final int MOST_CELLS_FOR_RUNS = 4096;

    private static final int WEAVE_STATE = 4;
    private static final int TURN_STATE = 0;

    /** By state and quarter (2 for the upper half of x, 1 for that of y): when the curve comes there. */
    private static final int[] STEP_OF_QUARTER = {
        0, 1, 3, 2,
        0, 3, 1, 2,
        2, 3, 1, 0,
        2, 1, 3, 0,
        0, 2, 1, 3
    };

    /** The other way round: by state and step, the quarter. */
    private static final int[] QUARTER_OF_STEP = {
        0, 1, 3, 2,
        0, 2, 3, 1,
        3, 2, 0, 1,
        3, 1, 0, 2,
        0, 2, 1, 3
    };

    /** By state and step: the state inside that quarter. */
    private static final int[] STATE_AFTER_STEP = {
        1, 0, 0, 3,
        0, 1, 1, 2,
        3, 2, 2, 1,
        2, 3, 3, 0,
        4, 4, 4, 4
    };

    private final Row weaveRow = new Row();
    private final Row turnRow = new Row();
    private int levels = 1;
    private Frame frame = new Frame(0, 0, 0, 0);

    public CurveIndex() {
    }

    public boolean begin(int n) {
        if (n < 1 || n > MOST_LEVELS) {
            return false;
        }
        levels = n;
        weaveRow.clear();
        turnRow.clear();
        frame = new Frame(0, 0, 0, 0);
        return true;
    }

    public int key(int curve, int x, int y) {
        return isCurve(curve) && isCell(x, y) ? keyOf(curve, x, y) : NONE;
    }

    public int cell(int curve, int key) {
        return isCurve(curve) && isKey(key) ? cellOf(curve, key) : NONE;
    }

    public int put(int x, int y, int weight) {
        if (!isCell(x, y) || weight < 1 || weight > MOST_WEIGHT) {
            return NONE;
        }
        int turnKey = keyOf(TURN, x, y);
        int before = turnRow.weightOf(turnKey);
        if (before == 0 && turnRow.isFull()) {
            return NONE;
        }
        int cell = cellNumber(x, y);
        weaveRow.keep(keyOf(WEAVE, x, y), cell, weight);
        turnRow.keep(turnKey, cell, weight);
        return before;
    }

    public int take(int x, int y) {
        if (!isCell(x, y)) {
            return NONE;
        }
        int turnKey = keyOf(TURN, x, y);
        int before = turnRow.weightOf(turnKey);
        weaveRow.drop(keyOf(WEAVE, x, y));
        turnRow.drop(turnKey);
        return before;
    }

    public int at(int x, int y) {
        return isCell(x, y) ? turnRow.weightOf(keyOf(TURN, x, y)) : NONE;
    }

    public int many() {
        return turnRow.size;
    }

    public boolean window(int x0, int y0, int x1, int y1) {
        if (!isCell(x0, y0) || !isCell(x1, y1) || x1 < x0 || y1 < y0) {
            return false;
        }
        frame = new Frame(x0, y0, x1, y1);
        return true;
    }

    public int inside() {
        int found = 0;
        for (int place = 0; place < turnRow.size; place++) {
            if (isInFrame(turnRow.cells[place])) {
                found++;
            }
        }
        return found;
    }

    public int sum() {
        int total = 0;
        for (int place = 0; place < turnRow.size; place++) {
            if (isInFrame(turnRow.cells[place])) {
                total += turnRow.weights[place];
            }
        }
        return total;
    }

    public int nth(int curve, int i) {
        if (!isCurve(curve)) {
            return NONE;
        }
        Row row = curve == WEAVE ? weaveRow : turnRow;
        int before = 0;
        for (int place = 0; place < row.size; place++) {
            int cell = row.cells[place];
            if (isInFrame(cell)) {
                if (before == i) {
                    return cell;
                }
                before++;
            }
        }
        return NONE;
    }

    public int runs(int curve) {
        return hasRuns(curve) ? walkRuns(curve, NONE).count : NONE;
    }

    public int run(int curve, int i, int which) {
        if (!hasRuns(curve) || i < 0 || which < 0 || which > 1) {
            return NONE;
        }
        RunWalk walk = walkRuns(curve, i);
        return which == 0 ? walk.wantedFirst : walk.wantedLast;
    }

    public int nearest(int x, int y) {
        if (!isCell(x, y)) {
            return NONE;
        }
        int best = NONE;
        long bestDistance = 0;
        for (int place = 0; place < turnRow.size; place++) {
            int cell = turnRow.cells[place];
            long distance = squaredDistance(x, y, cell);
            // The row is in the order of the turn's keys: of equals the first must stay.
            if (best == NONE || distance < bestDistance) {
                best = cell;
                bestDistance = distance;
            }
        }
        return best;
    }

    private static boolean isCurve(int curve) {
        return curve == WEAVE || curve == TURN;
    }

    private boolean isCell(int x, int y) {
        int side = 1 << levels;
        return x >= 0 && x < side && y >= 0 && y < side;
    }

    private boolean isKey(int key) {
        return key >= 0 && key < 1 << 2 * levels;
    }

    private int cellNumber(int x, int y) {
        return (x << levels) + y;
    }

    private int xOf(int cell) {
        return cell >> levels;
    }

    private int yOf(int cell) {
        return cell & (1 << levels) - 1;
    }

    private boolean isInFrame(int cell) {
        return frame.holds(xOf(cell), yOf(cell));
    }

    private long squaredDistance(int x, int y, int cell) {
        long across = x - xOf(cell);
        long along = y - yOf(cell);
        return across * across + along * along;
    }

    private static int firstState(int curve) {
        return curve == WEAVE ? WEAVE_STATE : TURN_STATE;
    }

    /**
     * The document tells a key by that of another cell on a smaller side. Going
     * down from the whole grid, the state remembers how that cell lies to (x, y),
     * so that the bits of x and y can be read as they are.
     */
    private int keyOf(int curve, int x, int y) {
        int state = firstState(curve);
        int key = 0;
        for (int level = levels - 1; level >= 0; level--) {
            int quarter = 2 * (x >> level & 1) + (y >> level & 1);
            int step = STEP_OF_QUARTER[4 * state + quarter];
            key = 4 * key + step;
            state = STATE_AFTER_STEP[4 * state + step];
        }
        return key;
    }

    private int cellOf(int curve, int key) {
        int state = firstState(curve);
        int x = 0;
        int y = 0;
        for (int level = levels - 1; level >= 0; level--) {
            int step = key >> 2 * level & 3;
            int quarter = QUARTER_OF_STEP[4 * state + step];
            x = 2 * x + (quarter >> 1);
            y = 2 * y + (quarter & 1);
            state = STATE_AFTER_STEP[4 * state + step];
        }
        return cellNumber(x, y);
    }

    private boolean hasRuns(int curve) {
        return isCurve(curve) && frame.cellCount() <= MOST_CELLS_FOR_RUNS;
    }

    private RunWalk walkRuns(int curve, int wanted) {
        RunWalk walk = new RunWalk(frame, wanted);
        RunWalk.visit(walk, levels, firstState(curve), 0, 0, 0);
        return walk;
    }

    /** The window: it never changes, another one takes its place. */
    private static final class Frame {
        private final int x0;
        private final int y0;
        private final int x1;
        private final int y1;

        private Frame(int x0, int y0, int x1, int y1) {
            this.x0 = x0;
            this.y0 = y0;
            this.x1 = x1;
            this.y1 = y1;
        }

        private boolean holds(int x, int y) {
            return x >= x0 && x <= x1 && y >= y0 && y <= y1;
        }

        private boolean holdsSquare(int x, int y, int side) {
            return holds(x, y) && holds(x + side - 1, y + side - 1);
        }

        private boolean missesSquare(int x, int y, int side) {
            return x > x1 || x + side <= x0 || y > y1 || y + side <= y0;
        }

        private int cellCount() {
            return (x1 - x0 + 1) * (y1 - y0 + 1);
        }
    }

    /** All points in the order of one curve's keys. */
    private static final class Row {
        private final int[] keys = new int[MOST_POINTS];
        private final int[] cells = new int[MOST_POINTS];
        private final int[] weights = new int[MOST_POINTS];
        private int size = 0;

        private Row() {
        }

        private void clear() {
            size = 0;
        }

        private boolean isFull() {
            return size >= MOST_POINTS;
        }

        /** Where a key is, or where it would have to go. */
        private int placeOf(int key) {
            int place = 0;
            while (place < size && keys[place] < key) {
                place++;
            }
            return place;
        }

        private boolean isKeyAt(int place, int key) {
            return place < size && keys[place] == key;
        }

        private int weightOf(int key) {
            int place = placeOf(key);
            return isKeyAt(place, key) ? weights[place] : 0;
        }

        private void keep(int key, int cell, int weight) {
            int place = placeOf(key);
            if (!isKeyAt(place, key)) {
                if (isFull()) {
                    return;
                }
                moveTail(place, place + 1);
                size++;
            }
            keys[place] = key;
            cells[place] = cell;
            weights[place] = weight;
        }

        private void drop(int key) {
            int place = placeOf(key);
            if (isKeyAt(place, key)) {
                moveTail(place + 1, place);
                size--;
            }
        }

        private void moveTail(int from, int to) {
            int length = size - from;
            System.arraycopy(keys, from, keys, to, length);
            System.arraycopy(cells, from, cells, to, length);
            System.arraycopy(weights, from, weights, to, length);
        }
    }

    /**
     * A walk along a curve that meets the window's keys from the least on and
     * joins them to runs. It counts them and keeps only the one that is
     * wanted (its keys stay NONE when there is none such), so that no row of
     * runs need be held.
     */
    private static final class RunWalk {
        private final Frame frame;
        private final int wanted;
        private int count = 0;
        private int lastKey = NONE;
        private int wantedFirst = NONE;
        private int wantedLast = NONE;

        private RunWalk(Frame frame, int wanted) {
            this.frame = frame;
            this.wanted = wanted;
        }

        /** Goes through a square of side 2^level with the corner (x, y), whose least key is firstKey. */
        private static void visit(RunWalk walk, int level, int state, int x, int y, int firstKey) {
            if (level < 0 || walk.frame.missesSquare(x, y, 1 << level)) {
                return;
            }
            if (walk.frame.holdsSquare(x, y, 1 << level)) {
                walk.join(firstKey, firstKey + (1 << 2 * level) - 1);
                return;
            }
            // A square of one cell is held or missed, so here there are quarters.
            int lower = level - 1;
            for (int step = 0; step < 4; step++) {
                int quarter = QUARTER_OF_STEP[4 * state + step];
                visit(walk, lower, STATE_AFTER_STEP[4 * state + step],
                    x + (quarter >> 1 << lower), y + ((quarter & 1) << lower),
                    firstKey + (step << 2 * lower));
            }
        }

        private void join(int first, int last) {
            if (count == 0 || first != lastKey + 1) {
                count++;
                if (count - 1 == wanted) {
                    wantedFirst = first;
                }
            }
            if (count - 1 == wanted) {
                wantedLast = last;
            }
            lastKey = last;
        }
    }
}
