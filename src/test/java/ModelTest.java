import java.math.BigInteger;
import java.util.ArrayList;
import java.util.Arrays;
import java.util.List;
import java.util.Random;
import java.util.TreeSet;

/**
 * Long runs of chosen-by-seed calls, each answered by StockGrid and by a plain model that keeps
 * every cell of a small grid and follows the document's words one by one.
 */
public final class ModelTest {
    private static final BigInteger TOP = BigInteger.valueOf(3_000_000_000_000_000_000L);
    private static int wrong = 0;
    private static long calls = 0;
    private static final java.util.TreeMap<String, Integer> answers = new java.util.TreeMap<>();

    public static void main(String[] args) {
        int small = args.length > 0 ? Integer.parseInt(args[0]) : 1500;
        int large = args.length > 1 ? Integer.parseInt(args[1]) : 120;
        for (int seed = 0; seed < small && wrong < 5; seed++) {
            new Run(seed, 14).go();
        }
        for (int seed = 0; seed < large && wrong < 5; seed++) {
            new Run(1_000_000 + seed, 90).go();
        }
        if (args.length > 2) {
            answers.forEach((answer, times) -> System.out.println(answer + ": " + times));
        }
        System.out.println(calls + " calls, " + wrong + " answers are not the model's");
        if (wrong != 0) {
            System.exit(1);
        }
    }

    /** One object and its model under the same calls. */
    private static final class Run {
        final Random random;
        final int seed;
        final int side;
        final StockGrid grid = new StockGrid();
        final Model model = new Model();
        final List<String> told = new ArrayList<>();
        /** How often an argument is a wild one. */
        final int wild;
        /** Few are cancelled: more than 40 acts come to stand. */
        final boolean calm;
        final boolean withoutZones;
        boolean bad = false;

        Run(int seed, int side) {
            this.seed = seed;
            this.side = side;
            random = new Random(seed);
            wild = random.nextBoolean() ? 60 : 400;
            calm = random.nextBoolean();
            withoutZones = random.nextBoolean();
        }

        void go() {
            long cap = random.nextInt(3) == 0 ? 1 + random.nextInt(60)
                    : random.nextBoolean() ? 1 + random.nextInt(100_000) : 1_000_000_000_000L;
            int w = 1 + random.nextInt(side);
            int h = 1 + random.nextInt(side);
            if (random.nextInt(12) != 0) {
                due("world", grid.world(w, h, cap), model.world(w, h, cap), w, h, cap);
            }
            for (int i = 0; i < 505 && !bad; i++) {
                one();
            }
        }

        void due(String name, long got, long want, long... args) {
            calls++;
            answers.merge(name + (got < 0 ? " " + got : " sound"), 1, Integer::sum);
            String call = name + Arrays.toString(args).replace('[', '(').replace(']', ')');
            told.add(call + " -> " + got);
            if (got != want && !bad) {
                bad = true;
                wrong++;
                System.out.println("seed " + seed + ", call " + told.size() + ": " + call
                        + " answered " + got + ", the model's is " + want);
                for (int i = Math.max(0, told.size() - 40); i < told.size(); i++) {
                    System.out.println("    " + told.get(i));
                }
            }
        }

        int wildInt() {
            int[] some = {Integer.MIN_VALUE, Integer.MAX_VALUE, -2, -1, 0, 1, 2, 3, 10_000, -10_000,
                1_000_000_001, -1_000_000_001, 1_000_000_000, model.w, model.h, 9_999};
            return some[random.nextInt(some.length)];
        }

        /** None that is sound and great: the model keeps every cell. */
        int wildSide() {
            int[] some = {Integer.MIN_VALUE, Integer.MAX_VALUE, -1, 0, 1, 10_001};
            return some[random.nextInt(some.length)];
        }

        boolean isWild() {
            return random.nextInt(wild) == 0;
        }

        int good() {
            return isWild() ? wildInt() : random.nextInt(3);
        }

        int goodOrAll() {
            return isWild() ? wildInt() : random.nextInt(4) - 1;
        }

        int what(int top) {
            return isWild() ? wildInt() : random.nextInt(top + 1);
        }

        int[] rect() {
            int x1 = random.nextInt(model.w);
            int x2 = random.nextInt(model.w);
            int y1 = random.nextInt(model.h);
            int y2 = random.nextInt(model.h);
            int[] r = {Math.min(x1, x2), Math.min(y1, y2), Math.max(x1, x2), Math.max(y1, y2)};
            if (random.nextInt(6) == 0) {
                r = new int[] {0, 0, model.w - 1, model.h - 1};
            }
            if (random.nextInt(8) == 0) {
                r[2] = r[0];
                r[3] = r[1];
            }
            if (isWild()) {
                r[random.nextInt(4)] = wildInt();
            }
            return r;
        }

        long amountNear(long top) {
            switch (random.nextInt(8)) {
                case 0: return top;
                case 1: return top + 1;
                case 2: return 1;
                case 3: return isWild() ? Long.MAX_VALUE : 1 + random.nextInt(5);
                case 4: return isWild() ? -random.nextInt(2) : 1 + random.nextInt(20);
                default: return top < 2 ? 1 : 1 + (random.nextLong() >>> 1) % top;
            }
        }

        int someV() {
            if (isWild()) {
                return wildInt();
            }
            int size = model.cap > 1_000_000 && random.nextInt(3) == 0 ? 1_000_000_000
                    : model.cap > 1000 ? 500 : 6;
            int v = 1 + random.nextInt(size);
            return random.nextInt(3) == 0 ? -v : v;
        }

        void one() {
            int which = random.nextInt(100);
            if (which < 45) {
                doAct();
            } else if (which < 85) {
                ask();
            } else {
                askMore();
            }
        }

        void doAct() {
            int g = good();
            int[] r = rect();
            int which = random.nextInt(100);
            boolean isOpening = which >= 67 && which < 90;
            boolean isZone = which >= 62 && which < 67;
            if ((isOpening && calm && random.nextInt(8) != 0) || (isZone && withoutZones)) {
                which = random.nextInt(62);
            }
            if (which < 30) {
                int v = someV();
                due("add", grid.add(g, r[0], r[1], r[2], r[3], v),
                        model.add(g, r[0], r[1], r[2], r[3], v), g, r[0], r[1], r[2], r[3], v);
            } else if (which < 42) {
                long n = amountNear(Math.max(0, model.sum(g, r[0], r[1], r[2], r[3])));
                due("pick", grid.pick(g, r[0], r[1], r[2], r[3], n),
                        model.pick(g, r[0], r[1], r[2], r[3], n), g, r[0], r[1], r[2], r[3], n);
            } else if (which < 54) {
                int dx = isWild() ? wildInt() : random.nextInt(9) - 4;
                int dy = isWild() ? wildInt() : random.nextInt(9) - 4;
                due("move", grid.move(g, r[0], r[1], r[2], r[3], dx, dy),
                        model.move(g, r[0], r[1], r[2], r[3], dx, dy),
                        g, r[0], r[1], r[2], r[3], dx, dy);
            } else if (which < 62) {
                due("level", grid.level(g, r[0], r[1], r[2], r[3]),
                        model.level(g, r[0], r[1], r[2], r[3]), g, r[0], r[1], r[2], r[3]);
            } else if (which < 67) {
                int zone = what(5);
                long limit = amountNear(Math.max(0, model.sum(-1, r[0], r[1], r[2], r[3])) + 30);
                due("zone", grid.zone(zone, r[0], r[1], r[2], r[3], limit),
                        model.zone(zone, r[0], r[1], r[2], r[3], limit),
                        zone, r[0], r[1], r[2], r[3], limit);
            } else if (which < 78) {
                due("begin", grid.begin(), model.begin());
            } else if (which < 83) {
                due("commit", grid.commit(), model.commit());
            } else if (which < 90) {
                due("cancel", grid.cancel(), model.cancel());
            } else if (which < 99) {
                feedAndRun();
            } else if (random.nextInt(3) == 0) {
                int w = isWild() ? wildSide() : 1 + random.nextInt(side);
                int h = isWild() ? wildSide() : 1 + random.nextInt(side);
                long cap = isWild() ? 0 : isWild() ? 1_000_000_000_001L : 1 + random.nextInt(5000);
                due("world", grid.world(w, h, cap), model.world(w, h, cap), w, h, cap);
            }
        }

        void feedAndRun() {
            byte[] text = new TextMaker(random, model, wild).make();
            for (int i = 0; i < text.length; i += 20) {
                int[] five = new int[5];
                for (int j = 0; j < 20; j++) {
                    int b = i + j < text.length ? text[i + j] & 255 : random.nextInt(256);
                    five[j / 4] |= b << (24 - 8 * (j % 4));
                }
                due("feed", grid.feed(five[0], five[1], five[2], five[3], five[4]),
                        model.feed(five), five[0], five[1], five[2], five[3], five[4]);
            }
            int n = random.nextInt(12) == 0 ? random.nextInt(600) - 20 : text.length;
            if (random.nextInt(30) != 0) {
                told.add(new String(text, java.nio.charset.StandardCharsets.ISO_8859_1));
                due("run", grid.run(n), model.run(n), n);
            }
            for (int what = -1; what < 4; what++) {
                due("fault", grid.fault(what), model.fault(what), what);
            }
            due("count", grid.count(5), model.count(5), 5);
        }

        void ask() {
            int g = goodOrAll();
            int[] r = rect();
            switch (random.nextInt(9)) {
                case 0:
                    due("sum", grid.sum(g, r[0], r[1], r[2], r[3]),
                            model.sum(g, r[0], r[1], r[2], r[3]), g, r[0], r[1], r[2], r[3]);
                    break;
                case 1:
                    due("at", grid.at(g, r[0], r[1]), model.at(g, r[0], r[1]), g, r[0], r[1]);
                    break;
                case 2: {
                    int what = what(1);
                    due("bound", grid.bound(g, r[0], r[1], r[2], r[3], what),
                            model.bound(g, r, what), g, r[0], r[1], r[2], r[3], what);
                    break;
                }
                case 3:
                    due("empty", grid.empty(r[0], r[1], r[2], r[3]), model.empty(r),
                            r[0], r[1], r[2], r[3]);
                    break;
                case 4: {
                    int what = what(1);
                    due("share", grid.share(g, r[0], r[1], r[2], r[3], what),
                            model.share(g, r, what), g, r[0], r[1], r[2], r[3], what);
                    break;
                }
                case 5: {
                    long t = amountNear(Math.max(1, model.bound(g, r, 1))) - random.nextInt(2);
                    due("atLeast", grid.atLeast(g, r[0], r[1], r[2], r[3], t),
                            model.atLeast(g, r, t), g, r[0], r[1], r[2], r[3], t);
                    break;
                }
                case 6: {
                    long k = amountNear(Math.max(1, (long) (r[2] - r[0] + 1) * (r[3] - r[1] + 1)));
                    due("value", grid.value(g, r[0], r[1], r[2], r[3], k),
                            model.value(g, r, k), g, r[0], r[1], r[2], r[3], k);
                    break;
                }
                case 7: {
                    int what = what(4);
                    due("hole", grid.hole(what), model.hole(what), what);
                    break;
                }
                default: {
                    int i = isWild() ? wildInt() : random.nextInt(model.saved.size() + 1);
                    due("before", grid.before(i, g, r[0], r[1], r[2], r[3]),
                            model.before(i, g, r), i, g, r[0], r[1], r[2], r[3]);
                }
            }
        }

        void askMore() {
            int g = good();
            int[] r = rect();
            int axis = what(1);
            switch (random.nextInt(12)) {
                case 0: {
                    long k = amountNear(Math.max(1, model.total(g)));
                    due("find", grid.find(g, axis, k), model.find(g, axis, k), g, axis, k);
                    break;
                }
                case 1: {
                    long k = amountNear(Math.max(1, model.sum(g, r[0], r[1], r[2], r[3])));
                    due("findIn", grid.findIn(g, r[0], r[1], r[2], r[3], k),
                            model.findIn(g, r, k), g, r[0], r[1], r[2], r[3], k);
                    break;
                }
                case 2: {
                    long n = amountNear(Math.max(1, model.sum(g, r[0], r[1], r[2], r[3])));
                    due("touched", grid.touched(g, r[0], r[1], r[2], r[3], n),
                            model.touched(g, r, n), g, r[0], r[1], r[2], r[3], n);
                    break;
                }
                case 3:
                    due("ahead", grid.ahead(g, axis, r[0], r[1]),
                            model.ahead(g, axis, r[0], r[1]), g, axis, r[0], r[1]);
                    break;
                case 4: {
                    int what = what(2);
                    due("depot", grid.depot(g, what), model.depot(g, what), g, what);
                    break;
                }
                case 5: {
                    int a = isWild() ? wildInt() : 1 + random.nextInt(model.w);
                    int b = isWild() ? wildInt() : 1 + random.nextInt(model.h);
                    int what = what(2);
                    due("window", grid.window(g, a, b, what), model.window(g, a, b, what),
                            g, a, b, what);
                    break;
                }
                case 6: {
                    int what = what(1);
                    due("line", grid.line(g, axis, what), model.line(g, axis, what), g, axis, what);
                    break;
                }
                case 7: {
                    int what = what(1);
                    due("borders", grid.borders(axis, what), model.borders(axis, what), axis, what);
                    break;
                }
                case 8: {
                    int i = isWild() ? wildInt() : random.nextInt(50);
                    due("border", grid.border(axis, i), model.border(axis, i), axis, i);
                    break;
                }
                case 9: {
                    int i = isWild() ? wildInt() : random.nextInt(41);
                    int what = what(6);
                    due("act", grid.act(i, what), model.act(i, what), i, what);
                    break;
                }
                case 10: {
                    int zone = what(5);
                    int what = what(5);
                    due("zoneAt", grid.zoneAt(zone, what), model.zoneAt(zone, what), zone, what);
                    break;
                }
                default: {
                    int what = isWild() ? wildInt() : random.nextInt(9) - 1;
                    due("count", grid.count(what), model.count(what), what);
                }
            }
        }
    }

    /** Makes texts, most of them sound. */
    private static final class TextMaker {
        final Random random;
        final Model model;
        final int wild;
        final StringBuilder text = new StringBuilder();

        TextMaker(Random random, Model model, int wild) {
            this.random = random;
            this.model = model;
            this.wild = wild;
        }

        byte[] make() {
            int acts = random.nextInt(8) == 0 ? 20 + random.nextInt(15) : random.nextInt(6);
            boolean bare = acts > 10;
            for (int i = 0; i < acts && text.length() < 440; i++) {
                String[] words = {"add", "pick", "begin", "commit", "cancel"};
                String word = words[bare ? 2 + random.nextInt(3) : random.nextInt(5)];
                blanks(0);
                text.append(word);
                if (word.equals("add") || word.equals("pick")) {
                    arguments(word.equals("add"));
                }
                blanks(0);
                text.append(';');
            }
            blanks(0);
            if (random.nextInt(4) == 0) {
                spoil();
            }
            return text.substring(0, Math.min(text.length(), 500))
                    .getBytes(java.nio.charset.StandardCharsets.ISO_8859_1);
        }

        void arguments(boolean adds) {
            int x1 = random.nextInt(model.w);
            int y1 = random.nextInt(model.h);
            int x2 = x1 + random.nextInt(model.w - x1 + (random.nextInt(20) == 0 ? 1 : 0));
            int y2 = y1 + random.nextInt(model.h - y1 + (random.nextInt(20) == 0 ? 1 : 0));
            number(random.nextInt(wild) == 0 ? 3 : random.nextInt(3), 0);
            number(random.nextInt(wild) == 0 ? 10_000 : x1, 1);
            number(y1, 1);
            number(x2, 1);
            number(y2, 1);
            if (adds && random.nextInt(3) == 0) {
                blanks(0);
                text.append('-');
                number(1 + random.nextInt(5), 0);
            } else if (adds) {
                number(random.nextInt(wild) == 0 ? 1_000_000_001 : random.nextInt(40), 1);
            } else if (random.nextInt(wild) == 0) {
                blanks(1);
                text.append(random.nextBoolean() ? "9999999999999999999" : "00000000000000000007");
            } else {
                number(random.nextInt(60), 1);
            }
        }

        void number(int number, int leastBlanks) {
            blanks(leastBlanks);
            if (random.nextInt(30) == 0) {
                text.append("0".repeat(1 + random.nextInt(random.nextInt(5) == 0 ? 20 : 3)));
            }
            text.append(number);
        }

        void blanks(int least) {
            int many = least + (random.nextInt(5) == 0 ? random.nextInt(3) : 0);
            text.append(" ".repeat(many));
        }

        void spoil() {
            String signs = " ;-0a9z+/:`{A";
            int where = random.nextInt(text.length() + 1);
            char sign = random.nextInt(10) == 0 ? (char) random.nextInt(256)
                    : signs.charAt(random.nextInt(signs.length()));
            switch (random.nextInt(4)) {
                case 0: text.insert(where, sign); break;
                case 1: if (where < text.length()) text.deleteCharAt(where); break;
                case 2: if (where < text.length()) text.setCharAt(where, sign); break;
                default: text.setLength(where);
            }
        }
    }

    /** Every cell for itself. */
    private static final class Model {
        int w = 1;
        int h = 1;
        long cap = 1_000_000_000_000L;
        long[][][] units = new long[3][1][1];
        List<TreeSet<Integer>> borders = freshBorders();
        int[] late = new int[2];
        long[][] zones = new long[6][];
        List<long[][][]> saved = new ArrayList<>();
        List<Integer> doneIn = new ArrayList<>();
        List<long[]> standing = new ArrayList<>();
        List<Integer> tape = new ArrayList<>();
        int fault = 0;
        int place = -1;
        int refused = 0;

        static List<TreeSet<Integer>> freshBorders() {
            List<TreeSet<Integer>> both = new ArrayList<>();
            both.add(new TreeSet<>(List.of(0)));
            both.add(new TreeSet<>(List.of(0)));
            return both;
        }

        static long[][][] copyOf(long[][][] from) {
            long[][][] to = new long[3][from[0].length][];
            for (int g = 0; g < 3; g++) {
                for (int y = 0; y < from[g].length; y++) {
                    to[g][y] = from[g][y].clone();
                }
            }
            return to;
        }

        long world(int nw, int nh, long ncap) {
            if (nw < 1 || nw > 10000 || nh < 1 || nh > 10000 || ncap < 1 || ncap > 1_000_000_000_000L) {
                return -3;
            }
            w = nw;
            h = nh;
            cap = ncap;
            units = new long[3][h][w];
            borders = freshBorders();
            late = new int[2];
            zones = new long[6][];
            saved.clear();
            doneIn.clear();
            standing.clear();
            return (long) w * h;
        }

        boolean rect(int x1, int y1, int x2, int y2) {
            return 0 <= x1 && x1 <= x2 && x2 < w && 0 <= y1 && y1 <= y2 && y2 < h;
        }

        boolean rect(int[] r) {
            return rect(r[0], r[1], r[2], r[3]);
        }

        static boolean one(int g) {
            return g == 0 || g == 1 || g == 2;
        }

        long cell(int g, int x, int y) {
            return g >= 0 ? units[g][y][x] : units[0][y][x] + units[1][y][x] + units[2][y][x];
        }

        long sum(int g, int x1, int y1, int x2, int y2) {
            if (g < -1 || g > 2 || !rect(x1, y1, x2, y2)) return -2;
            long s = 0;
            for (int y = y1; y <= y2; y++) for (int x = x1; x <= x2; x++) s += cell(g, x, y);
            return s;
        }

        long total(int g) {
            return sum(g, 0, 0, w - 1, h - 1);
        }

        long at(int g, int x, int y) {
            return sum(g, x, y, x, y);
        }

        long zoneUnits(int z) {
            return sum(-1, (int) zones[z][0], (int) zones[z][1], (int) zones[z][2], (int) zones[z][3]);
        }

        /** The borders that there would be of an axis. */
        TreeSet<Integer> with(int axis, int... more) {
            TreeSet<Integer> set = new TreeSet<>(borders.get(axis));
            for (int b : more) if (b != (axis == 0 ? w : h)) set.add(b);
            return set;
        }

        void setBorders(TreeSet<Integer> xs, TreeSet<Integer> ys) {
            for (int axis = 0; axis < 2; axis++) {
                int highest = borders.get(axis).last();
                for (int b : axis == 0 ? xs : ys) {
                    if (!borders.get(axis).contains(b) && b < highest) late[axis]++;
                }
            }
            borders.set(0, xs);
            borders.set(1, ys);
        }

        void stands(long... act) {
            standing.add(act);
            if (standing.size() > 40) standing.remove(0);
            if (!doneIn.isEmpty()) doneIn.set(doneIn.size() - 1, doneIn.get(doneIn.size() - 1) + 1);
        }

        long add(int g, int x1, int y1, int x2, int y2, int v) {
            if (!one(g) || !rect(x1, y1, x2, y2)) return -2;
            if (v == 0 || v > 1_000_000_000 || v < -1_000_000_000) return -3;
            long[][][] then = copyOf(units);
            for (int y = y1; y <= y2; y++) for (int x = x1; x <= x2; x++) then[g][y][x] += v;
            for (int y = y1; y <= y2; y++) for (int x = x1; x <= x2; x++) if (then[g][y][x] < 0) return -5;
            int code = refusal(g, then);
            if (code != 0) return code;
            BigInteger all = BigInteger.valueOf(total(g)).add(BigInteger.valueOf(v)
                    .multiply(BigInteger.valueOf((long) (x2 - x1 + 1) * (y2 - y1 + 1))));
            if (all.compareTo(TOP) > 0) return -6;
            TreeSet<Integer> xs = with(0, x1, x2 + 1);
            TreeSet<Integer> ys = with(1, y1, y2 + 1);
            if (xs.size() > 48 || ys.size() > 48) return -4;
            setBorders(xs, ys);
            units = then;
            stands(0, g, x1, y1, x2, y2, v);
            return total(g);
        }

        /** -7, -9: of what would be then. */
        int refusal(int g, long[][][] then) {
            for (int y = 0; y < h; y++) for (int x = 0; x < w; x++) {
                if (then[0][y][x] + then[1][y][x] + then[2][y][x] > cap) return -7;
            }
            for (int z = 0; z < 6; z++) {
                if (zones[z] == null) continue;
                long ahead = zoneUnits(z);
                long[][][] keep = units;
                units = then;
                long behind = zoneUnits(z);
                units = keep;
                if (behind > ahead && behind > zones[z][4]) return -9;
            }
            return 0;
        }

        long pick(int g, int x1, int y1, int x2, int y2, long n) {
            if (!one(g) || !rect(x1, y1, x2, y2)) return -2;
            if (n < 1 || n > 3_000_000_000_000_000_000L) return -3;
            if (sum(g, x1, y1, x2, y2) < n) return -5;
            long[][][] then = copyOf(units);
            long left = n;
            int lx = -1;
            int ly = -1;
            for (int y = y1; y <= y2 && left > 0; y++) for (int x = x1; x <= x2 && left > 0; x++) {
                long taken = Math.min(left, then[g][y][x]);
                then[g][y][x] -= taken;
                left -= taken;
                lx = x;
                ly = y;
            }
            TreeSet<Integer> xs = with(0, x1, x2 + 1, lx, lx + 1);
            TreeSet<Integer> ys = with(1, y1, y2 + 1, ly, ly + 1);
            if (xs.size() > 48 || ys.size() > 48) return -4;
            setBorders(xs, ys);
            units = then;
            stands(1, g, x1, y1, x2, y2, n);
            return (long) w * ly + lx;
        }

        TreeSet<Integer> shifted(int axis, int lo, int hi, int d) {
            TreeSet<Integer> set = with(axis, lo, hi + 1, lo + d, hi + 1 + d);
            for (int b : borders.get(axis)) if (b > lo && b <= hi) set.add(b + d);
            set.remove(axis == 0 ? w : h);
            return set;
        }

        long move(int g, int x1, int y1, int x2, int y2, int dx, int dy) {
            if (!one(g) || !rect(x1, y1, x2, y2)) return -2;
            if (dx < -9999 || dx > 9999 || dy < -9999 || dy > 9999 || (dx == 0 && dy == 0)) return -3;
            if (!rect(x1 + dx, y1 + dy, x2 + dx, y2 + dy)) return -2;
            TreeSet<Integer> xs = shifted(0, x1, x2, dx);
            TreeSet<Integer> ys = shifted(1, y1, y2, dy);
            if (xs.size() > 48 || ys.size() > 48) return -4;
            long[][][] then = copyOf(units);
            long came = 0;
            for (int y = y1; y <= y2; y++) for (int x = x1; x <= x2; x++) {
                then[g][y][x] -= units[g][y][x];
                then[g][y + dy][x + dx] += units[g][y][x];
                came += units[g][y][x];
            }
            int code = refusal(g, then);
            if (code != 0) return code;
            setBorders(xs, ys);
            units = then;
            stands(2, g, x1, y1, x2, y2, 100000L * dx + dy);
            return came;
        }

        long level(int g, int x1, int y1, int x2, int y2) {
            if (!one(g) || !rect(x1, y1, x2, y2)) return -2;
            long all = sum(g, x1, y1, x2, y2);
            long cells = (long) (x2 - x1 + 1) * (y2 - y1 + 1);
            long over = all % cells;
            long[][][] then = copyOf(units);
            int lx = -1;
            int ly = -1;
            for (int y = y1; y <= y2; y++) for (int x = x1; x <= x2; x++) {
                then[g][y][x] = all / cells;
                if (over > 0) {
                    then[g][y][x]++;
                    over--;
                    lx = x;
                    ly = y;
                }
            }
            TreeSet<Integer> xs = lx < 0 ? with(0, x1, x2 + 1) : with(0, x1, x2 + 1, lx + 1);
            TreeSet<Integer> ys = lx < 0 ? with(1, y1, y2 + 1) : with(1, y1, y2 + 1, ly, ly + 1);
            if (xs.size() > 48 || ys.size() > 48) return -4;
            int code = refusal(g, then);
            if (code != 0) return code;
            setBorders(xs, ys);
            units = then;
            stands(3, g, x1, y1, x2, y2, all);
            return all / cells;
        }

        long zone(int z, int x1, int y1, int x2, int y2, long limit) {
            if (z < 0 || z > 5 || !rect(x1, y1, x2, y2)) return -2;
            if (limit < 0 || limit > 3_000_000_000_000_000_000L) return -3;
            if (sum(-1, x1, y1, x2, y2) > limit) return -9;
            zones[z] = new long[] {x1, y1, x2, y2, limit};
            return sum(-1, x1, y1, x2, y2);
        }

        long zoneAt(int z, int what) {
            if (z < 0 || z > 5 || what < 0 || what > 5) return -2;
            if (zones[z] == null) return -1;
            return what < 5 ? zones[z][what] : Math.max(0, zones[z][4] - zoneUnits(z));
        }

        int begin() {
            if (saved.size() == 8) return -4;
            saved.add(copyOf(units));
            doneIn.add(0);
            return saved.size();
        }

        int commit() {
            if (saved.isEmpty()) return -8;
            saved.remove(saved.size() - 1);
            int done = doneIn.remove(doneIn.size() - 1);
            if (!doneIn.isEmpty()) doneIn.set(doneIn.size() - 1, doneIn.get(doneIn.size() - 1) + done);
            return saved.size();
        }

        int cancel() {
            if (saved.isEmpty()) return -8;
            units = saved.remove(saved.size() - 1);
            int done = doneIn.remove(doneIn.size() - 1);
            for (int i = 0; i < done && !standing.isEmpty(); i++) standing.remove(standing.size() - 1);
            return done;
        }

        int feed(int[] five) {
            if (tape.size() + 20 > 500) return -4;
            for (int four : five) for (int i = 3; i >= 0; i--) tape.add((four >> (8 * i)) & 255);
            return tape.size();
        }

        int run(int n) {
            if (n < 0 || n > tape.size()) return -3;
            StringBuilder text = new StringBuilder();
            for (int i = 0; i < n; i++) text.append((char) (int) tape.get(i));
            tape.clear();
            Reader reader = new Reader(text.toString());
            reader.read();
            fault = reader.fault;
            place = reader.fault == 0 ? -1 : reader.place;
            refused = 0;
            if (fault != 0) return -30 - fault;
            int done = 0;
            for (long[] a : reader.acts) {
                long code;
                switch ((int) a[0]) {
                    case 0: code = add((int) a[1], (int) a[2], (int) a[3], (int) a[4], (int) a[5], (int) a[6]); break;
                    case 1: code = pick((int) a[1], (int) a[2], (int) a[3], (int) a[4], (int) a[5], a[6]); break;
                    case 2: code = begin(); break;
                    case 3: code = commit(); break;
                    default: code = cancel();
                }
                if (code < 0) {
                    refused = (int) code;
                    return done;
                }
                done++;
            }
            return done;
        }

        int fault(int what) {
            return what == 0 ? fault : what == 1 ? place : what == 2 ? refused : -1;
        }

        long bound(int g, int[] r, int what) {
            if (g < -1 || g > 2 || !rect(r) || what < 0 || what > 1) return -2;
            List<Long> all = values(g, r);
            return what == 0 ? all.get(0) : all.get(all.size() - 1);
        }

        List<Long> values(int g, int[] r) {
            List<Long> all = new ArrayList<>();
            for (int y = r[1]; y <= r[3]; y++) for (int x = r[0]; x <= r[2]; x++) all.add(cell(g, x, y));
            all.sort(null);
            return all;
        }

        long empty(int[] r) {
            if (!rect(r)) return -2;
            return values(-1, r).stream().filter(u -> u == 0).count();
        }

        long share(int g, int[] r, int what) {
            if (!one(g) || !rect(r) || what < 0 || what > 1) return -2;
            BigInteger up = BigInteger.valueOf(sum(g, r[0], r[1], r[2], r[3]));
            BigInteger low = BigInteger.valueOf(total(g));
            if (low.signum() == 0) return what;
            BigInteger by = up.gcd(low);
            return (what == 0 ? up : low).divide(by).longValueExact();
        }

        long atLeast(int g, int[] r, long t) {
            if (g < -1 || g > 2 || !rect(r)) return -2;
            if (t < 0) return -3;
            return values(g, r).stream().filter(u -> u >= t).count();
        }

        long value(int g, int[] r, long k) {
            if (g < -1 || g > 2 || !rect(r)) return -2;
            if (k < 1) return -3;
            List<Long> all = values(g, r);
            return k > all.size() ? -1 : all.get((int) k - 1);
        }

        long hole(int what) {
            if (what < 0 || what > 4) return -2;
            long[] best = null;
            for (int y1 = 0; y1 < h; y1++) {
                boolean[] full = new boolean[w];
                for (int y2 = y1; y2 < h; y2++) {
                    int run = 0;
                    for (int x = 0; x < w; x++) {
                        full[x] |= cell(-1, x, y2) != 0;
                        run = full[x] ? 0 : run + 1;
                        long area = (long) run * (y2 - y1 + 1);
                        long[] one = {x - run + 1, y1, x, y2, area};
                        if (area > 0 && (best == null || better(one, best))) best = one;
                    }
                }
            }
            return best == null ? -1 : best[what];
        }

        static boolean better(long[] a, long[] b) {
            if (a[4] != b[4]) return a[4] > b[4];
            if (a[1] != b[1]) return a[1] < b[1];
            if (a[0] != b[0]) return a[0] < b[0];
            return a[3] < b[3];
        }

        long before(int i, int g, int[] r) {
            if (i < 0 || i >= saved.size() || !one(g) || !rect(r)) return -2;
            long[][][] keep = units;
            units = saved.get(i);
            long s = sum(g, r[0], r[1], r[2], r[3]);
            units = keep;
            return s;
        }

        /** All cells in an order, as {x, y}. */
        List<int[]> ordered(int order, int[] r) {
            List<int[]> cells = new ArrayList<>();
            if (order == 0) {
                for (int y = r[1]; y <= r[3]; y++) for (int x = r[0]; x <= r[2]; x++) cells.add(new int[] {x, y});
            } else {
                for (int x = r[0]; x <= r[2]; x++) for (int y = r[1]; y <= r[3]; y++) cells.add(new int[] {x, y});
            }
            return cells;
        }

        int[] all() {
            return new int[] {0, 0, w - 1, h - 1};
        }

        long unit(int g, int order, int[] r, long k) {
            if (k < 1) return -3;
            long rest = k;
            for (int[] c : ordered(order, r)) {
                rest -= units[g][c[1]][c[0]];
                if (rest <= 0) return (long) w * c[1] + c[0];
            }
            return -1;
        }

        long find(int g, int order, long k) {
            if (!one(g) || order < 0 || order > 1) return -2;
            return unit(g, order, all(), k);
        }

        long findIn(int g, int[] r, long k) {
            if (!one(g) || !rect(r)) return -2;
            return unit(g, 0, r, k);
        }

        long touched(int g, int[] r, long n) {
            if (!one(g) || !rect(r)) return -2;
            if (n < 1) return -3;
            long rest = n;
            long cells = 0;
            for (int[] c : ordered(0, r)) {
                if (units[g][c[1]][c[0]] > 0) cells++;
                rest -= units[g][c[1]][c[0]];
                if (rest <= 0) return cells;
            }
            return -1;
        }

        long ahead(int g, int order, int cx, int cy) {
            if (!one(g) || order < 0 || order > 1 || !rect(cx, cy, cx, cy)) return -2;
            long s = 0;
            for (int[] c : ordered(order, all())) {
                if (c[0] == cx && c[1] == cy) return s;
                s += units[g][c[1]][c[0]];
            }
            throw new IllegalStateException();
        }

        long depot(int g, int what) {
            if (!one(g) || what < 0 || what > 2) return -2;
            if (total(g) == 0) return -1;
            long[] columns = new long[w];
            long[] rows = new long[h];
            for (int y = 0; y < h; y++) for (int x = 0; x < w; x++) {
                columns[x] += units[g][y][x];
                rows[y] += units[g][y][x];
            }
            int bx = nearest(columns);
            int by = nearest(rows);
            if (what < 2) return what == 0 ? bx : by;
            BigInteger haul = haul(columns, bx).add(haul(rows, by));
            return haul.compareTo(TOP) > 0 ? -6 : haul.longValueExact();
        }

        static int nearest(long[] lines) {
            int best = 0;
            BigInteger least = haul(lines, 0);
            for (int i = 1; i < lines.length; i++) {
                BigInteger cost = haul(lines, i);
                if (cost.compareTo(least) < 0) {
                    least = cost;
                    best = i;
                }
            }
            return best;
        }

        static BigInteger haul(long[] lines, int to) {
            BigInteger cost = BigInteger.ZERO;
            for (int i = 0; i < lines.length; i++) {
                if (lines[i] != 0) cost = cost.add(BigInteger.valueOf(lines[i]).multiply(BigInteger.valueOf(Math.abs(i - to))));
            }
            return cost;
        }

        long window(int g, int a, int b, int what) {
            if (!one(g) || what < 0 || what > 2) return -2;
            if (a < 1 || a > w || b < 1 || b > h) return -3;
            long[][] ahead = new long[h + 1][w + 1];
            for (int y = 0; y < h; y++) for (int x = 0; x < w; x++) {
                ahead[y + 1][x + 1] = units[g][y][x] + ahead[y][x + 1] + ahead[y + 1][x] - ahead[y][x];
            }
            long[] best = {0, 0, -1};
            for (int y = 0; y + b <= h; y++) for (int x = 0; x + a <= w; x++) {
                long s = ahead[y + b][x + a] - ahead[y][x + a] - ahead[y + b][x] + ahead[y][x];
                if (s > best[2]) best = new long[] {x, y, s};
            }
            return best[what];
        }

        long line(int g, int axis, int what) {
            if (!one(g) || axis < 0 || axis > 1 || what < 0 || what > 1) return -2;
            long[] best = {0, -1};
            for (int i = 0; i < (axis == 0 ? w : h); i++) {
                long s = axis == 0 ? sum(g, i, 0, i, h - 1) : sum(g, 0, i, w - 1, i);
                if (s > best[1]) best = new long[] {i, s};
            }
            return best[what];
        }

        int borders(int axis, int what) {
            if (axis < 0 || axis > 1 || what < 0 || what > 1) return -2;
            return what == 0 ? borders.get(axis).size() : late[axis];
        }

        int border(int axis, int i) {
            if (axis < 0 || axis > 1) return -2;
            if (i < 0) return -3;
            return i < borders.get(axis).size() ? new ArrayList<>(borders.get(axis)).get(i) : -1;
        }

        long act(int i, int what) {
            if (i < 0 || i >= standing.size() || what < 0 || what > 6) return -2;
            return standing.get(i)[what];
        }

        long count(int what) {
            switch (what) {
                case 0: return (long) w * h;
                case 1: return w;
                case 2: return h;
                case 3: return saved.size();
                case 4: return standing.size();
                case 5: return tape.size();
                case 6: return cap;
                default: return -1;
            }
        }
    }

    /** The text by its tokens, against the list of what each act wants. */
    private static final class Reader {
        final String text;
        final List<long[]> acts = new ArrayList<>();
        int fault = 0;
        int place = -1;

        Reader(String text) {
            this.text = text;
        }

        void read() {
            java.util.regex.Matcher tokens = java.util.regex.Pattern
                    .compile("[a-z]+|[0-9]+|[^a-z0-9 ]", java.util.regex.Pattern.DOTALL).matcher(text);
            List<String> words = new ArrayList<>();
            List<Integer> places = new ArrayList<>();
            while (tokens.find()) {
                words.add(tokens.group());
                places.add(tokens.start());
            }
            words.add("");
            places.add(text.length());
            int i = 0;
            while (!words.get(i).isEmpty()) {
                int kind = List.of("add", "pick", "begin", "commit", "cancel").indexOf(words.get(i));
                if (kind < 0) {
                    set(1, places.get(i));
                    return;
                }
                if (acts.size() == 30) {
                    set(3, places.get(i));
                    return;
                }
                i++;
                long[] act = {kind, 0, 0, 0, 0, 0, 0};
                acts.add(act);
                for (int k = 1; kind < 2 && k <= 6; k++) {
                    boolean minus = kind == 0 && k == 6 && words.get(i).equals("-");
                    if (minus) i++;
                    if (!words.get(i).matches("[0-9]+")) {
                        set(1, places.get(i));
                        return;
                    }
                    BigInteger number = new BigInteger(words.get(i));
                    BigInteger high = k == 1 ? BigInteger.TWO : k < 6 ? BigInteger.valueOf(9999)
                            : kind == 0 ? BigInteger.valueOf(1_000_000_000) : TOP;
                    boolean zeroCan = k < 6;
                    if (words.get(i).length() > 19 || number.compareTo(high) > 0
                            || (number.signum() == 0 && !zeroCan)) {
                        set(2, places.get(i));
                        return;
                    }
                    act[k] = minus ? -number.longValueExact() : number.longValueExact();
                    i++;
                }
                if (!words.get(i).equals(";")) {
                    set(1, places.get(i));
                    return;
                }
                i++;
            }
        }

        void set(int what, int where) {
            fault = what;
            place = where;
        }
    }
}
