import java.math.BigInteger;
import java.util.ArrayList;
import java.util.List;
import java.util.Random;

/**
 * Great grids, where no cell-by-cell model fits: sums against the list of what was added, and
 * all other answers against the sums by which the document tells them.
 */
public final class LargeTest {
    private static final long TOP = 3_000_000_000_000_000_000L;
    private static int wrong = 0;
    private static long asked = 0;

    private final Random random;
    private final StockGrid grid = new StockGrid();
    /** Good, x1, y1, x2, y2, v of each ADD. */
    private final List<int[]> added = new ArrayList<>();
    private final int w;
    private final int h;

    private LargeTest(int seed) {
        random = new Random(seed);
        w = 5_000 + random.nextInt(5_001);
        h = 5_000 + random.nextInt(5_001);
        grid.world(w, h, 1_000_000_000_000L);
    }

    public static void main(String[] args) {
        int runs = args.length > 0 ? Integer.parseInt(args[0]) : 150;
        for (int seed = 0; seed < runs && wrong < 10; seed++) {
            LargeTest test = new LargeTest(seed);
            test.fill();
            test.checkSums();
            test.checkUnits();
            test.checkValues();
            test.checkDepot();
            test.checkWindow();
            test.checkActs();
        }
        System.out.println(asked + " answers asked, " + wrong + " are not as due");
        if (wrong != 0) {
            System.exit(1);
        }
    }

    private void due(String what, long got, long want) {
        asked++;
        if (got != want) {
            wrong++;
            System.out.println(w + " by " + h + ": " + what + " answered " + got + ", due is " + want);
        }
    }

    private void holds(String what, boolean so) {
        due(what, so ? 1 : 0, 1);
    }

    private int[] rect() {
        int x1 = random.nextInt(w);
        int x2 = random.nextInt(w);
        int y1 = random.nextInt(h);
        int y2 = random.nextInt(h);
        return new int[] {Math.min(x1, x2), Math.min(y1, y2), Math.max(x1, x2), Math.max(y1, y2)};
    }

    private void fill() {
        for (int i = 0; i < 22; i++) {
            int g = random.nextInt(3);
            int[] r = rect();
            int v = 1 + random.nextInt(random.nextBoolean() ? 1_000_000_000 : 9);
            long got = grid.add(g, r[0], r[1], r[2], r[3], v);
            added.add(new int[] {g, r[0], r[1], r[2], r[3], v});
            due("add", got, sumOf(g, 0, 0, w - 1, h - 1).longValueExact());
        }
    }

    private static long common(int a1, int a2, int b1, int b2) {
        return Math.max(0, Math.min(a2, b2) - Math.max(a1, b1) + 1);
    }

    private BigInteger sumOf(int g, int x1, int y1, int x2, int y2) {
        BigInteger sum = BigInteger.ZERO;
        for (int[] a : added) {
            if (g == -1 || a[0] == g) {
                long cells = common(a[1], a[3], x1, x2) * common(a[2], a[4], y1, y2);
                sum = sum.add(BigInteger.valueOf(cells).multiply(BigInteger.valueOf(a[5])));
            }
        }
        return sum;
    }

    private void checkSums() {
        for (int i = 0; i < 30; i++) {
            int[] r = rect();
            int g = random.nextInt(4) - 1;
            due("sum", grid.sum(g, r[0], r[1], r[2], r[3]),
                    sumOf(g, r[0], r[1], r[2], r[3]).longValueExact());
            due("at", grid.at(g, r[0], r[1]), sumOf(g, r[0], r[1], r[0], r[1]).longValueExact());
        }
        for (int g = 0; g < 3; g++) {
            int x = random.nextInt(w - 1) + 1;
            int y = random.nextInt(h - 1) + 1;
            due("ahead by rows", grid.ahead(g, 0, x, y), sumOf(g, 0, 0, w - 1, y - 1)
                    .add(sumOf(g, 0, y, x - 1, y)).longValueExact());
            due("ahead by columns", grid.ahead(g, 1, x, y), sumOf(g, 0, 0, x - 1, h - 1)
                    .add(sumOf(g, x, 0, x, y - 1)).longValueExact());
            int[] r = rect();
            BigInteger part = sumOf(g, r[0], r[1], r[2], r[3]);
            BigInteger all = sumOf(g, 0, 0, w - 1, h - 1);
            BigInteger by = part.gcd(all);
            if (all.signum() > 0) {
                due("share", grid.share(g, r[0], r[1], r[2], r[3], 0), part.divide(by).longValueExact());
                due("share", grid.share(g, r[0], r[1], r[2], r[3], 1), all.divide(by).longValueExact());
            }
        }
    }

    private void checkUnits() {
        for (int g = 0; g < 3; g++) {
            long all = grid.sum(g, 0, 0, w - 1, h - 1);
            for (int i = 0; i < 6 && all > 0; i++) {
                long k = i == 0 ? 1 : i == 1 ? all : 1 + (random.nextLong() >>> 1) % all;
                for (int order = 0; order < 2; order++) {
                    long cell = grid.find(g, order, k);
                    int x = (int) (cell % w);
                    int y = (int) (cell / w);
                    long ahead = grid.ahead(g, order, x, y);
                    holds("find " + k, ahead < k && k <= ahead + grid.at(g, x, y));
                }
            }
            due("find too many", grid.find(g, 0, all + 1), -1);
            int[] r = rect();
            long some = grid.sum(g, r[0], r[1], r[2], r[3]);
            for (int i = 0; i < 6 && some > 0; i++) {
                long k = i == 0 ? 1 : i == 1 ? some : 1 + (random.nextLong() >>> 1) % some;
                long cell = grid.findIn(g, r[0], r[1], r[2], r[3], k);
                int x = (int) (cell % w);
                int y = (int) (cell / w);
                long ahead = (y > r[1] ? grid.sum(g, r[0], r[1], r[2], y - 1) : 0)
                        + (x > r[0] ? grid.sum(g, r[0], y, x - 1, y) : 0);
                holds("findIn " + k, ahead < k && k <= ahead + grid.at(g, x, y));
                long cells = (y > r[1] ? grid.atLeast(g, r[0], r[1], r[2], y - 1, 1) : 0)
                        + grid.atLeast(g, r[0], y, x, y, 1);
                due("touched " + k, grid.touched(g, r[0], r[1], r[2], r[3], k), cells);
            }
        }
    }

    private void checkValues() {
        for (int i = 0; i < 10; i++) {
            int[] r = rect();
            int g = random.nextInt(4) - 1;
            long cells = (long) (r[2] - r[0] + 1) * (r[3] - r[1] + 1);
            long k = 1 + (random.nextLong() >>> 1) % cells;
            long v = grid.value(g, r[0], r[1], r[2], r[3], k);
            holds("value", cells - grid.atLeast(g, r[0], r[1], r[2], r[3], v + 1) >= k
                    && cells - grid.atLeast(g, r[0], r[1], r[2], r[3], v) < k);
            due("least", grid.bound(g, r[0], r[1], r[2], r[3], 0), grid.value(g, r[0], r[1], r[2], r[3], 1));
            due("most", grid.bound(g, r[0], r[1], r[2], r[3], 1), grid.value(g, r[0], r[1], r[2], r[3], cells));
            due("empty", grid.empty(r[0], r[1], r[2], r[3]),
                    cells - grid.atLeast(-1, r[0], r[1], r[2], r[3], 1));
        }
        if (grid.hole(4) > 0) {
            due("hole is empty", grid.sum(-1, (int) grid.hole(0), (int) grid.hole(1),
                    (int) grid.hole(2), (int) grid.hole(3)), 0);
        }
    }

    private BigInteger haul(int g, int axis, int to) {
        BigInteger haul = BigInteger.ZERO;
        for (int[] a : added) {
            if (a[0] == g) {
                long ways = 0;
                for (int p = a[1 + axis]; p <= a[3 + axis]; p++) {
                    ways += Math.abs(p - to);
                }
                haul = haul.add(BigInteger.valueOf(ways).multiply(BigInteger.valueOf(a[5]))
                        .multiply(BigInteger.valueOf(a[4 - axis] - a[2 - axis] + 1)));
            }
        }
        return haul;
    }

    private void checkDepot() {
        for (int g = 0; g < 3; g++) {
            if (grid.sum(g, 0, 0, w - 1, h - 1) == 0) {
                due("no depot", grid.depot(g, 2), -1);
                continue;
            }
            int x = (int) grid.depot(g, 0);
            int y = (int) grid.depot(g, 1);
            BigInteger across = haul(g, 0, x);
            BigInteger down = haul(g, 1, y);
            holds("depot, x less", x == 0 || haul(g, 0, x - 1).compareTo(across) > 0);
            holds("depot, x more", x == w - 1 || haul(g, 0, x + 1).compareTo(across) >= 0);
            holds("depot, y less", y == 0 || haul(g, 1, y - 1).compareTo(down) > 0);
            holds("depot, y more", y == h - 1 || haul(g, 1, y + 1).compareTo(down) >= 0);
            BigInteger haul = across.add(down);
            boolean above = haul.compareTo(BigInteger.valueOf(TOP)) > 0;
            due("haul", grid.depot(g, 2), above ? -6 : haul.longValueExact());
        }
    }

    private void checkWindow() {
        for (int g = 0; g < 3; g++) {
            int a = 1 + random.nextInt(w);
            int b = 1 + random.nextInt(h);
            int x = (int) grid.window(g, a, b, 0);
            int y = (int) grid.window(g, a, b, 1);
            long most = grid.window(g, a, b, 2);
            due("window's units", grid.sum(g, x, y, x + a - 1, y + b - 1), most);
            for (int i = 0; i < 20; i++) {
                int x1 = random.nextBoolean() ? random.nextInt(w - a + 1)
                        : Math.max(0, Math.min(w - a, x + random.nextInt(5) - 2));
                int y1 = random.nextBoolean() ? random.nextInt(h - b + 1)
                        : Math.max(0, Math.min(h - b, y + random.nextInt(5) - 2));
                long units = sumOf(g, x1, y1, x1 + a - 1, y1 + b - 1).longValueExact();
                boolean earlier = y1 < y || (y1 == y && x1 < x);
                holds("window", units < most || (units == most && !earlier));
            }
            int line = (int) grid.line(g, 0, 0);
            due("line", grid.sum(g, line, 0, line, h - 1), grid.line(g, 0, 1));
            holds("line is the first", line == 0 || grid.sum(g, line - 1, 0, line - 1, h - 1) < grid.line(g, 0, 1));
        }
    }

    /** On what was filled: a PICK, a MOVE, a LEVEL, each cancelled. */
    private void checkActs() {
        int g = random.nextInt(3);
        int[] r = rect();
        long some = grid.sum(g, r[0], r[1], r[2], r[3]);
        long all = grid.sum(g, 0, 0, w - 1, h - 1);
        if (some == 0 || grid.borders(0, 0) > 44 || grid.borders(1, 0) > 44) {
            return;
        }
        long n = 1 + (random.nextLong() >>> 1) % some;
        long cell = grid.findIn(g, r[0], r[1], r[2], r[3], n);
        grid.begin();
        due("pick", grid.pick(g, r[0], r[1], r[2], r[3], n), cell);
        due("picked", grid.sum(g, 0, 0, w - 1, h - 1), all - n);
        due("what is left", grid.sum(g, r[0], r[1], r[2], r[3]), some - n);
        due("cancel", grid.cancel(), 1);
        due("as ahead", grid.sum(g, r[0], r[1], r[2], r[3]), some);
        grid.begin();
        long cells = (long) (r[2] - r[0] + 1) * (r[3] - r[1] + 1);
        if (grid.level(g, r[0], r[1], r[2], r[3]) >= 0) {
            due("levelled", grid.bound(g, r[0], r[1], r[2], r[3], 0), some / cells);
            due("those over", grid.atLeast(g, r[0], r[1], r[2], r[3], some / cells + 1), some % cells);
            due("all", grid.sum(g, 0, 0, w - 1, h - 1), all);
        }
        grid.cancel();
        checkSums();
    }
}
