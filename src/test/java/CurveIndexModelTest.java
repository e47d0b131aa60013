import java.util.ArrayList;
import java.util.List;
import java.util.Map;
import java.util.Random;
import java.util.TreeMap;
import java.util.TreeSet;

/** Runs of made-up calls on an object and on a model that follows the document word for word. */
public final class CurveIndexModelTest {
    private static final int RUNS = 600;
    private static final int CALLS = 512;

    private static int wrong = 0;
    private static int fullest = 0;

    public static void main(String[] args) {
        for (int run = 0; run < RUNS; run++) {
            oneRun(new Random(run), run);
        }
        System.out.println(RUNS + " runs, " + wrong + " wrong answers, at most " + fullest + " points");
        if (wrong != 0) {
            System.exit(1);
        }
    }

    private static void oneRun(Random random, int run) {
        CurveIndex index = new CurveIndex();
        Model model = new Model();
        // Some runs only fill up, so that the limit of 500 points is met.
        boolean fills = run % 10 == 0;
        int n = fills ? 5 + run / 10 % 11 : 1 + run % 15;
        due(run, "begin(" + n + ")", bit(index.begin(n)), bit(model.begin(n)));
        for (int call = 1; call < CALLS; call++) {
            if (random.nextInt(100) < (fills ? 99 : 30)) {
                put(random, run, index, model);
            } else {
                other(random, run, index, model, fills ? 2 + random.nextInt(11) : random.nextInt(14));
            }
        }
        fullest = Math.max(fullest, model.points.size());
    }

    private static void put(Random random, int run, CurveIndex index, Model model) {
        int x = random.nextInt(4) == 0 ? coordinate(random, model) : random.nextInt((int) model.side);
        int y = random.nextInt(4) == 0 ? coordinate(random, model) : random.nextInt((int) model.side);
        int weight = random.nextInt(100) == 0 ? new int[] {-1, 0, 1000, 1001}[random.nextInt(4)] : 1 + random.nextInt(999);
        due(run, "put(" + x + ", " + y + ", " + weight + ")", index.put(x, y, weight), model.put(x, y, weight));
    }

    private static void other(Random random, int run, CurveIndex index, Model model, int kind) {
        int x = coordinate(random, model);
        int y = coordinate(random, model);
        int curve = random.nextInt(20) == 0 ? random.nextInt(5) - 2 : random.nextInt(2);
        switch (kind) {
            case 0: {
                int n = random.nextInt(6) == 0 ? random.nextInt(20) - 2 : 1 + random.nextInt(random.nextBoolean() ? 5 : 15);
                // Seldom, or no grid would ever hold much.
                if (random.nextInt(6) == 0) {
                    due(run, "begin(" + n + ")", bit(index.begin(n)), bit(model.begin(n)));
                }
                break;
            }
            case 1:
                if (!model.points.isEmpty() && random.nextBoolean()) {
                    List<Long> cells = new ArrayList<>(model.points.keySet());
                    long cell = cells.get(random.nextInt(cells.size()));
                    x = (int) (cell / model.side);
                    y = (int) (cell % model.side);
                }
                due(run, "take(" + x + ", " + y + ")", index.take(x, y), model.take(x, y));
                break;
            case 2:
                due(run, "at(" + x + ", " + y + ")", index.at(x, y), model.at(x, y));
                break;
            case 3:
                due(run, "many()", index.many(), model.points.size());
                break;
            case 4:
            case 5:
                window(random, run, index, model);
                break;
            case 6:
                due(run, "inside()", index.inside(), model.windowCells().size());
                break;
            case 7:
                due(run, "sum()", index.sum(), model.sum());
                break;
            case 8: {
                int i = random.nextInt(model.windowCells().size() + 3) - 1;
                due(run, "nth(" + curve + ", " + i + ")", index.nth(curve, i), model.nth(curve, i));
                break;
            }
            case 9:
                due(run, "runs(" + curve + ")", index.runs(curve), model.runs(curve));
                break;
            case 10: {
                int i = random.nextInt(Math.max(1, model.runs(curve)) + 3) - 1;
                int which = random.nextInt(15) == 0 ? random.nextInt(5) - 2 : random.nextInt(2);
                due(run, "run(" + curve + ", " + i + ", " + which + ")", index.run(curve, i, which), model.run(curve, i, which));
                break;
            }
            case 11:
                due(run, "nearest(" + x + ", " + y + ")", index.nearest(x, y), model.nearest(x, y));
                break;
            case 12:
                due(run, "key(" + curve + ", " + x + ", " + y + ")", index.key(curve, x, y), model.key(curve, x, y));
                break;
            default:
                cell(random, run, index, model, curve);
        }
    }

    /** The model looks from the other side: the answer must be a cell that has the key. */
    private static void cell(Random random, int run, CurveIndex index, Model model, int curve) {
        long keys = model.side * model.side;
        int key = random.nextInt(10) == 0
            ? (int) new long[] {-1, keys, Integer.MIN_VALUE, Integer.MAX_VALUE}[random.nextInt(4)]
            : (int) (random.nextDouble() * keys);
        int got = index.cell(curve, key);
        if (key < 0 || key >= keys || curve < 0 || curve > 1) {
            due(run, "cell(" + curve + ", " + key + ")", got, -1);
        } else {
            long back = got < 0 ? -1 : model.key(curve, (int) (got / model.side), (int) (got % model.side));
            due(run, "the key of cell(" + curve + ", " + key + ")", back, key);
        }
    }

    private static void window(Random random, int run, CurveIndex index, Model model) {
        int x0 = coordinate(random, model);
        int y0 = coordinate(random, model);
        int x1;
        int y1;
        if (random.nextInt(3) == 0) {
            x1 = coordinate(random, model);
            y1 = coordinate(random, model);
        } else {
            // Near the limit of 4096 cells, and of many shapes.
            int width = 1 << random.nextInt(13);
            int height = Math.max(1, 4096 / width + random.nextInt(3) - 1);
            x1 = (int) Math.min(model.side - 1, x0 + width - 1L);
            y1 = (int) Math.min(model.side - 1, y0 + height - 1L);
        }
        due(run, "window(" + x0 + ", " + y0 + ", " + x1 + ", " + y1 + ")",
            bit(index.window(x0, y0, x1, y1)), bit(model.window(x0, y0, x1, y1)));
    }

    private static int coordinate(Random random, Model model) {
        int side = (int) model.side;
        switch (random.nextInt(40)) {
            case 0: return new int[] {-1, side, Integer.MIN_VALUE, Integer.MAX_VALUE}[random.nextInt(4)];
            case 1: return 0;
            case 2: return side - 1;
            // Crowded round the middle, so that points meet windows and distances are equal.
            case 3: case 4: case 5: case 6: case 7: case 8: case 9: case 10: case 11: case 12:
                return Math.min(side - 1, Math.max(0, side / 2 - 4 + random.nextInt(8)));
            default: return random.nextInt(side);
        }
    }

    private static long bit(boolean answer) {
        return answer ? 1 : 0;
    }

    private static void due(int run, String call, long got, long want) {
        if (got != want) {
            wrong++;
            if (wrong <= 20) {
                System.out.println("run " + run + ": " + call + " answered " + got + ", due is " + want);
            }
        }
    }

    /** Slow and plain; cells and keys are told as long numbers. */
    private static final class Model {
        long side = 2;
        final Map<Long, Integer> points = new TreeMap<>();
        long x0;
        long y0;
        long x1;
        long y1;

        boolean begin(int n) {
            if (n < 1 || n > 15) {
                return false;
            }
            side = 1L << n;
            points.clear();
            x0 = y0 = x1 = y1 = 0;
            return true;
        }

        boolean isCell(long x, long y) {
            return x >= 0 && y >= 0 && x < side && y < side;
        }

        long key(int curve, int x, int y) {
            if (!isCell(x, y) || curve < 0 || curve > 1) {
                return -1;
            }
            return curve == 0 ? weave(x, y) : turn(side, x, y);
        }

        static long weave(long x, long y) {
            long key = 0;
            long power = 1;
            for (int i = 0; i < 15; i++) {
                if ((x >> i) % 2 == 1) {
                    key += power;
                }
                if ((y >> i) % 2 == 1) {
                    key += 2 * power;
                }
                power *= 4;
            }
            return key;
        }

        static long turn(long side, long x, long y) {
            if (side == 1) {
                return 0;
            }
            long s = side / 2;
            if (x < s && y < s) {
                return turn(s, y, x);
            }
            if (x < s) {
                return s * s + turn(s, x, y - s);
            }
            if (y >= s) {
                return 2 * s * s + turn(s, x - s, y - s);
            }
            return 3 * s * s + turn(s, s - 1 - y, 2 * s - 1 - x);
        }

        long put(int x, int y, int weight) {
            if (!isCell(x, y) || weight < 1 || weight > 999) {
                return -1;
            }
            Integer before = points.get(x * side + y);
            if (before == null && points.size() == 500) {
                return -1;
            }
            points.put(x * side + y, weight);
            return before == null ? 0 : before;
        }

        long take(int x, int y) {
            if (!isCell(x, y)) {
                return -1;
            }
            Integer before = points.remove(x * side + y);
            return before == null ? 0 : before;
        }

        long at(int x, int y) {
            return isCell(x, y) ? points.getOrDefault(x * side + y, 0) : -1;
        }

        boolean window(long a0, long b0, long a1, long b1) {
            if (!isCell(a0, b0) || !isCell(a1, b1) || a1 < a0 || b1 < b0) {
                return false;
            }
            x0 = a0;
            y0 = b0;
            x1 = a1;
            y1 = b1;
            return true;
        }

        List<Long> windowCells() {
            List<Long> cells = new ArrayList<>();
            for (long cell : points.keySet()) {
                long x = cell / side;
                long y = cell % side;
                if (x0 <= x && x <= x1 && y0 <= y && y <= y1) {
                    cells.add(cell);
                }
            }
            return cells;
        }

        long sum() {
            long sum = 0;
            for (long cell : windowCells()) {
                sum += points.get(cell);
            }
            return sum;
        }

        long keyOfCell(int curve, long cell) {
            return key(curve, (int) (cell / side), (int) (cell % side));
        }

        long nth(int curve, int i) {
            List<Long> cells = windowCells();
            if (curve < 0 || curve > 1 || i < 0 || i >= cells.size()) {
                return -1;
            }
            cells.sort((a, b) -> Long.compare(keyOfCell(curve, a), keyOfCell(curve, b)));
            return cells.get(i);
        }

        /** First and last keys by turns; null when the document answers NONE. */
        List<Long> runEnds(int curve) {
            if (curve < 0 || curve > 1 || (x1 - x0 + 1) * (y1 - y0 + 1) > 4096) {
                return null;
            }
            TreeSet<Long> keys = new TreeSet<>();
            for (long x = x0; x <= x1; x++) {
                for (long y = y0; y <= y1; y++) {
                    keys.add(key(curve, (int) x, (int) y));
                }
            }
            List<Long> ends = new ArrayList<>();
            for (long key : keys) {
                if (!keys.contains(key - 1)) {
                    ends.add(key);
                }
                if (!keys.contains(key + 1)) {
                    ends.add(key);
                }
            }
            return ends;
        }

        int runs(int curve) {
            List<Long> ends = runEnds(curve);
            return ends == null ? -1 : ends.size() / 2;
        }

        long run(int curve, int i, int which) {
            List<Long> ends = runEnds(curve);
            if (ends == null || i < 0 || 2 * i >= ends.size() || which < 0 || which > 1) {
                return -1;
            }
            return ends.get(2 * i + which);
        }

        long nearest(int x, int y) {
            if (!isCell(x, y)) {
                return -1;
            }
            long best = -1;
            for (long cell : points.keySet()) {
                if (best < 0 || distance(x, y, cell) < distance(x, y, best)
                    || distance(x, y, cell) == distance(x, y, best) && keyOfCell(1, cell) < keyOfCell(1, best)) {
                    best = cell;
                }
            }
            return best;
        }

        long distance(int x, int y, long cell) {
            long across = x - cell / side;
            long along = y - cell % side;
            return across * across + along * along;
        }
    }
}
