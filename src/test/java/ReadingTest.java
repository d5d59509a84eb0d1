import java.lang.reflect.Method;
import java.lang.reflect.Modifier;
import java.nio.charset.StandardCharsets;
import java.nio.file.Files;
import java.nio.file.Path;
import java.util.Arrays;
import java.util.Random;
import java.util.TreeMap;
import java.util.regex.Matcher;
import java.util.regex.Pattern;

/**
 * What a reading of the document from its first line found without a test of its own: that asking
 * changes nothing, that objects share nothing, which code goes ahead of which in every call, a text
 * against the same acts by hand, great grids against small ones, any arguments at all, the README.
 */
public final class ReadingTest {
    private static final long TOP = 3_000_000_000_000_000_000L;
    private static final long CAP = 1_000_000_000_000L;
    private static final int LOW = Integer.MIN_VALUE;
    private static final int HIGH = Integer.MAX_VALUE;
    private static final TreeMap<String, Method> CALLS = new TreeMap<>();
    private static int wrong = 0;
    private static long asked = 0;

    public static void main(String[] args) throws Exception {
        for (Method method : StockGrid.class.getDeclaredMethods()) {
            if (Modifier.isPublic(method.getModifiers())) {
                CALLS.put(method.getName(), method);
            }
        }
        due("calls in the document's face", CALLS.size(), 33);
        askingChangesNothing();
        objectsShareNothing();
        codesAsTold();
        textAsByHand();
        lateByEachAct();
        cancelledExactly();
        lastOf512();
        for (int seed = 0; seed < 150 && wrong < 10; seed++) {
            new Scaled(seed).go();
        }
        for (int seed = 0; seed < 300 && wrong < 10; seed++) {
            anyArguments(seed);
        }
        readme();
        System.out.println(asked + " answers asked, " + wrong + " are not as due");
        if (wrong != 0) {
            System.exit(1);
        }
    }

    private static void due(String what, long got, long want) {
        asked++;
        if (got != want) {
            wrong++;
            System.out.println(what + " answered " + got + ", due is " + want);
        }
    }

    private static void due(String what, String got, String want) {
        asked++;
        if (!got.equals(want)) {
            wrong++;
            System.out.println(what + " answered " + got + ", due is " + want);
        }
    }

    private static long call(StockGrid x, String name, long... args) {
        Method method = CALLS.get(name);
        Class<?>[] types = method.getParameterTypes();
        Object[] given = new Object[types.length];
        for (int i = 0; i < given.length; i++) {
            if (types[i] == int.class) {
                given[i] = (int) args[i];
            } else {
                given[i] = args[i];
            }
        }
        try {
            return ((Number) method.invoke(x, given)).longValue();
        } catch (ReflectiveOperationException thrown) {
            wrong++;
            System.out.println(told(name, args) + " threw " + thrown.getCause());
            return Long.MIN_VALUE;
        }
    }

    private static String told(String name, long... args) {
        return name + Arrays.toString(args);
    }

    private static int tape(StockGrid x, String text) {
        byte[] bytes = text.getBytes(StandardCharsets.ISO_8859_1);
        for (int i = 0; i < bytes.length; i += 20) {
            int[] five = new int[5];
            for (int j = 0; j < 20; j++) {
                int each = i + j < bytes.length ? bytes[i + j] & 255 : '!';
                five[j / 4] = five[j / 4] << 8 | each;
            }
            x.feed(five[0], five[1], five[2], five[3], five[4]);
        }
        return bytes.length;
    }

    /** 8 wide, 6 high: something of everything there is, two open, a fault told. */
    private static StockGrid some() {
        StockGrid x = new StockGrid();
        x.world(8, 6, 100);
        x.add(0, 1, 1, 4, 3, 7);
        x.add(1, 3, 2, 6, 4, 5);
        x.zone(1, 2, 2, 5, 5, 400);
        x.run(tape(x, "begin; commit; begin; add 2 0 0 1 0 8; pick 2 0 0 1 0 3; cancel; cancel;"));
        x.begin();
        x.pick(0, 0, 0, 7, 5, 10);
        x.begin();
        x.move(1, 3, 2, 4, 4, 3, 1);
        x.level(0, 0, 0, 5, 2);
        tape(x, "begin;");
        return x;
    }

    /** Goods in each cell, borders, zones, acts, what is open, the tape; all of it is lost then. */
    private static String stateOf(StockGrid x) {
        StringBuilder told = new StringBuilder();
        for (int what = 0; what < 7; what++) {
            told.append(x.count(what)).append(' ');
        }
        for (int axis = 0; axis < 2; axis++) {
            int many = x.borders(axis, 0);
            for (int i = 0; i < many; i++) {
                told.append(x.border(axis, i)).append(' ');
            }
            told.append("late ").append(x.borders(axis, 1)).append(' ');
        }
        int acts = (int) x.count(4);
        for (int i = 0; i < acts; i++) {
            for (int what = 0; what < 7; what++) {
                told.append(x.act(i, what)).append(' ');
            }
        }
        for (int zone = 0; zone < 6; zone++) {
            for (int what = 0; what < 6; what++) {
                told.append(x.zoneAt(zone, what)).append(' ');
            }
        }
        told.append("fault ").append(x.fault(0)).append(x.fault(1)).append(x.fault(2));
        tellCells(x, told);
        for (int open = (int) x.count(3); open > 0; open--) {
            told.append(" cancel ").append(x.cancel());
            tellCells(x, told);
        }
        told.append(" run ").append(x.run((int) Math.min(6, x.count(5))));
        return told.toString();
    }

    private static void tellCells(StockGrid x, StringBuilder told) {
        for (int good = 0; good < 3; good++) {
            for (int i = 0; i < x.count(0); i++) {
                told.append(' ').append(x.at(good, i % (int) x.count(1), i / (int) x.count(1)));
            }
        }
    }

    /** "state changes described above": of these calls none is described. */
    private static void askingChangesNothing() {
        String as = stateOf(some());
        StockGrid x = some();
        for (int g = -1; g < 4; g++) {
            for (int what = -1; what < 8; what++) {
                ask(x, g, what);
            }
        }
        due("after all that can be asked", stateOf(x), as);
        StockGrid y = some();
        for (int k = -1; k < 60; k++) {
            y.find(0, k & 1, k);
            y.findIn(1, 0, 0, 7, 5, k);
            y.touched(0, 1, 1, 6, 4, k);
            y.value(-1, 0, 0, 7, 5, k);
            y.window(1, k % 9, k % 7, 2);
        }
        due("after all that can be asked by k", stateOf(y), as);
    }

    private static void ask(StockGrid x, int g, int what) {
        x.zoneAt(g, what);
        x.fault(what);
        x.sum(g, 0, 0, 7, what);
        x.at(g, what, 2);
        x.bound(g, 0, 1, 6, 5, what);
        x.empty(0, 0, what, 5);
        x.share(g, 2, 2, 5, 5, what);
        x.atLeast(g, 0, 0, 7, 5, what);
        x.value(g, 0, 0, 7, 5, what);
        x.hole(what);
        x.before(what, g, 0, 0, 7, 5);
        x.find(g, what, 3);
        x.findIn(g, 1, 1, 7, 5, what);
        x.touched(g, 1, 1, 7, 5, what);
        x.ahead(g, what, 3, 3);
        x.depot(g, what);
        x.window(g, 3, 2, what);
        x.line(g, 0, what);
        x.line(g, 1, what);
        x.borders(g, what);
        x.border(g, what);
        x.act(what, g);
        x.count(what);
    }

    private static void objectsShareNothing() {
        String alone = stateOf(some());
        StockGrid x = some();
        StockGrid y = new StockGrid();
        due("a new one beside it", y.count(0) * 10 + y.count(3) + y.count(4) + y.count(5), 10);
        due("no zone of the other's", y.zoneAt(1, 4), -1);
        due("no fault of the other's", y.fault(2), 0);
        y.world(48, 48, 5);
        for (int i = 0; i < 48; i++) {
            y.add(i % 3, i, i, i, i, 5);
        }
        for (int i = 0; i < 8; i++) {
            y.begin();
        }
        y.zone(1, 0, 0, 47, 47, 1000);
        y.run(tape(y, "cancel; x"));
        tape(y, " ".repeat(500));
        due("the other", stateOf(x), alone);
        due("it", y.count(3) * 1000 + y.count(5), 8500);
    }

    /**
     * "Of several that which the call tells first; all these ahead of NONE": sound arguments by
     * which the call answers, and each wrong that it may be given, in the order told:
     * {which argument, its value, the code}. Each one and each two of them together.
     */
    private static void codesAsTold() {
        codes("world", new long[] {8, 6, 5}, new long[][] {{0, 0, -3}, {1, 10_001, -3}, {2, 0, -3}});
        codes("add", new long[] {0, 1, 1, 2, 2, 1}, rects(1, new long[][] {{0, 3, -2}, {0, -1, -2}},
                new long[][] {{5, 0, -3}, {5, -1_000_000_001, -3}, {5, -1_000_000_000, -5}, {5, 100, -7}}));
        codes("pick", new long[] {0, 0, 0, 7, 5, 1}, rects(1, new long[][] {{0, 3, -2}, {0, -1, -2}},
                new long[][] {{5, 0, -3}, {5, TOP + 1, -3}, {5, TOP, -5}}));
        codes("move", new long[] {0, 1, 1, 2, 2, 1, 1}, rects(1, new long[][] {{0, 3, -2}, {0, -1, -2}},
                new long[][] {{5, 10_000, -3}, {6, -10_000, -3}, {5, 6, -2}, {6, -2, -2}}));
        codes("level", new long[] {0, 1, 1, 2, 2}, rects(1, new long[][] {{0, 3, -2}, {0, -1, -2}}, new long[0][]));
        codes("zone", new long[] {5, 0, 0, 1, 1, TOP}, rects(1, new long[][] {{0, 6, -2}, {0, -1, -2}},
                new long[][] {{5, -1, -3}, {5, TOP + 1, -3}}));
        codes("zoneAt", new long[] {1, 5}, new long[][] {{0, 6, -2}, {0, -1, -2}, {1, 6, -2}, {1, -1, -2}, {0, 2, -1}});
        codes("sum", new long[] {-1, 0, 0, 7, 5}, rects(1, new long[][] {{0, 3, -2}, {0, -2, -2}}, new long[0][]));
        codes("at", new long[] {-1, 7, 5}, new long[][] {{0, 3, -2}, {0, -2, -2}, {1, 8, -2}, {1, -1, -2},
            {2, 6, -2}, {2, -1, -2}});
        codes("bound", new long[] {-1, 0, 0, 7, 5, 1}, rects(1, new long[][] {{0, 3, -2}, {0, -2, -2}},
                new long[][] {{5, 2, -2}, {5, -1, -2}}));
        codes("empty", new long[] {0, 0, 7, 5}, rects(0, new long[0][], new long[0][]));
        codes("share", new long[] {0, 0, 0, 7, 5, 1}, rects(1, new long[][] {{0, 3, -2}, {0, -1, -2}},
                new long[][] {{5, 2, -2}, {5, -1, -2}}));
        codes("atLeast", new long[] {-1, 0, 0, 7, 5, 0}, rects(1, new long[][] {{0, 3, -2}, {0, -2, -2}},
                new long[][] {{5, -1, -3}}));
        codes("value", new long[] {-1, 0, 0, 7, 5, 48}, rects(1, new long[][] {{0, 3, -2}, {0, -2, -2}},
                new long[][] {{5, 0, -3}, {5, 49, -1}}));
        codes("hole", new long[] {4}, new long[][] {{0, 5, -2}, {0, -1, -2}});
        codes("before", new long[] {1, 0, 0, 0, 7, 5}, rects(2, new long[][] {{0, 2, -2}, {0, -1, -2}, {1, 3, -2},
            {1, -1, -2}}, new long[0][]));
        moreCodesAsTold();
    }

    private static void moreCodesAsTold() {
        long[][] goods = {{0, 3, -2}, {0, -1, -2}};
        codes("find", new long[] {0, 1, 1}, new long[][] {{0, 3, -2}, {0, -1, -2}, {1, 2, -2}, {1, -1, -2},
            {2, 0, -3}, {2, 75, -1}, {0, 2, -1}});
        codes("findIn", new long[] {0, 0, 0, 7, 5, 1}, rects(1, goods,
                new long[][] {{5, 0, -3}, {5, 75, -1}, {0, 2, -1}}));
        codes("touched", new long[] {0, 0, 0, 7, 5, 74}, rects(1, goods,
                new long[][] {{5, 0, -3}, {5, 75, -1}, {5, TOP + 1, -1}, {0, 2, -1}}));
        codes("ahead", new long[] {0, 1, 7, 5}, new long[][] {{0, 3, -2}, {0, -1, -2}, {1, 2, -2}, {1, -1, -2},
            {2, 8, -2}, {2, -1, -2}, {3, 6, -2}, {3, -1, -2}});
        codes("depot", new long[] {0, 2}, new long[][] {{0, 3, -2}, {0, -1, -2}, {1, 3, -2}, {1, -1, -2}, {0, 2, -1}});
        codes("window", new long[] {0, 8, 6, 2}, new long[][] {{0, 3, -2}, {0, -1, -2}, {3, 3, -2}, {3, -1, -2},
            {1, 0, -3}, {1, 9, -3}, {2, 0, -3}, {2, 7, -3}});
        codes("line", new long[] {0, 1, 1}, new long[][] {{0, 3, -2}, {0, -1, -2}, {1, 2, -2}, {1, -1, -2},
            {2, 2, -2}, {2, -1, -2}});
        codes("borders", new long[] {1, 1}, new long[][] {{0, 2, -2}, {0, -1, -2}, {1, 2, -2}, {1, -1, -2}});
        codes("border", new long[] {1, 0}, new long[][] {{0, 2, -2}, {0, -1, -2}, {1, -1, -3}, {1, 40, -1}});
        codes("act", new long[] {0, 6}, new long[][] {{0, 5, -2}, {0, -1, -2}, {1, 7, -2}, {1, -1, -2}});
        codes("count", new long[] {6}, new long[][] {{0, 7, -1}, {0, -1, -1}});
        codes("fault", new long[] {0}, new long[][] {{0, 3, -1}, {0, -1, -1}});
        codes("run", new long[] {6}, new long[][] {{0, -1, -3}, {0, 21, -3}, {0, LOW, -3}, {0, HIGH, -3},
            {0, 7, -31}});
    }

    /** The wrongs of a call: those ahead of its RECTANGLE, those of that, those behind it. */
    private static long[][] rects(int at, long[][] ahead, long[][] behind) {
        long[][] own = {{at, -1, -2}, {at + 1, -1, -2}, {at + 2, 8, -2}, {at + 3, 6, -2}, {at, 8, -2}, {at + 1, 6, -2},
            {at, HIGH, -2}, {at + 1, LOW, -2}};
        long[][] all = Arrays.copyOf(ahead, ahead.length + own.length + behind.length);
        System.arraycopy(own, 0, all, ahead.length, own.length);
        System.arraycopy(behind, 0, all, ahead.length + own.length, behind.length);
        return all;
    }

    private static void codes(String name, long[] sound, long[][] wrongs) {
        long answer = call(some(), name, sound);
        due(told(name, sound) + " is sound", answer >= 0 ? 1 : 0, 1);
        for (int i = 0; i < wrongs.length; i++) {
            for (int j = i; j < wrongs.length; j++) {
                if (i != j && wrongs[i][0] == wrongs[j][0]) {
                    continue;
                }
                long[] args = sound.clone();
                args[(int) wrongs[i][0]] = wrongs[i][1];
                args[(int) wrongs[j][0]] = wrongs[j][1];
                due(told(name, args), call(some(), name, args), wrongs[i][2]);
            }
        }
    }

    /** "its ACTS are done one by one, as if by hand, till one is refused". */
    private static void textAsByHand() {
        for (int seed = 0; seed < 300; seed++) {
            Random random = new Random(seed);
            StockGrid told = some();
            StockGrid done = some();
            told.run(0);
            done.run(0);
            StringBuilder text = new StringBuilder();
            long answer = 0;
            int many = 0;
            int acts = 1 + random.nextInt(12);
            for (int i = 0; i < acts; i++) {
                long[] args = {random.nextInt(3), random.nextInt(5), random.nextInt(3), 3 + random.nextInt(5),
                    2 + random.nextInt(4), 1 + random.nextInt(random.nextInt(9) == 0 ? 150 : 12)};
                String word = new String[] {"add", "pick", "begin", "commit", "cancel"}[random.nextInt(5)];
                text.append(word);
                if (word.equals("add") && random.nextInt(3) == 0) {
                    args[5] = -args[5];
                }
                for (int k = 0; k < CALLS.get(word).getParameterCount(); k++) {
                    text.append(' ').append(args[k]);
                }
                text.append(';');
                if (answer >= 0) {
                    answer = call(done, word, args);
                    many += answer >= 0 ? 1 : 0;
                }
            }
            due(text.toString(), told.run(tape(told, text.toString())), many);
            due(text + " fault(0)", told.fault(0), 0);
            due(text + " fault(2)", told.fault(2), answer < 0 ? answer : 0);
            told.run(0);
            due(text + " what stands", stateOf(told), stateOf(done));
        }
    }

    /** "One is LATE, if one above it was there ahead of that act", of all kinds of act. */
    private static void lateByEachAct() {
        StockGrid x = new StockGrid();
        x.world(100, 100, 100);
        x.add(0, 50, 60, 69, 79, 1);
        due("by the first act none", x.borders(0, 1) * 10 + x.borders(1, 1), 0);
        due("pick", x.pick(0, 40, 30, 99, 99, 3), 6052);
        due("40, 52, 53; 30, 61", x.borders(0, 1) * 10 + x.borders(1, 1), 32);
        due("move", x.move(0, 60, 60, 69, 79, 20, 10), 200);
        due("60, but not 80, 90; 70 and 71, but not 90", x.borders(0, 1) * 10 + x.borders(1, 1), 44);
        due("71 is so far off from 61, 90 from 80", x.border(1, 5) * 100 + x.border(1, 7), 7190);
        due("no more", x.borders(0, 0) * 10 + x.borders(1, 0), 98);
        x.world(100, 100, 100);
        x.add(1, 90, 90, 90, 90, 25);
        due("level", x.level(1, 85, 88, 94, 91), 0);
        due("85 is late, 95 is not; 88 is, 92 is not", x.borders(0, 1) * 10 + x.borders(1, 1), 11);
        due("25 over: x 89, y 90", x.border(0, 2) * 100 + x.border(1, 2), 9090);
    }

    /** "all that is open kept or cancelled, exactly": every call answers as it did ahead. */
    private static void cancelledExactly() {
        for (int depth = 1; depth <= 8; depth++) {
            StockGrid x = new StockGrid();
            x.world(8, 6, 1000);
            x.add(0, 1, 1, 4, 3, 7);
            x.add(1, 3, 2, 6, 4, 5);
            x.add(2, 5, 1, 5, 1, 9);
            String[] as = new String[depth];
            for (int i = 0; i < depth; i++) {
                as[i] = answers(x);
                x.begin();
                x.pick(0, 0, 0, 7, 5, 1 + i);
                x.move(1, 1, 1, 5, 4, i % 2 == 0 ? 1 : -1, i % 3 - 1);
                x.level(2, i % 4, 0, 7, 1 + i % 4);
                x.add(i % 3, 0, i % 6, i % 8, 5, 3);
            }
            for (int i = depth - 1; i >= 0; i--) {
                due("cancel " + i + " of " + depth, x.cancel(), 4);
                due("as ahead of " + i + " of " + depth, answers(x), as[i]);
            }
        }
    }

    private static String answers(StockGrid x) {
        StringBuilder told = new StringBuilder();
        for (int g = 0; g < 3; g++) {
            for (int what = 0; what < 3; what++) {
                told.append(x.depot(g, what)).append(' ').append(x.window(g, 3, 2, what)).append(' ');
                told.append(x.line(g, what & 1, 1)).append(' ').append(x.share(g, 2, 2, 5, 4, what & 1)).append(' ');
            }
            told.append(x.find(g, 1, 20)).append(' ').append(x.sum(g, 0, 0, 7, 5)).append(' ');
        }
        return told.append(x.hole(4)).append(' ').append(x.count(4)).toString();
    }

    /** "used for at most 512 calls": the last one is answered as any other. */
    private static void lastOf512() {
        StockGrid x = new StockGrid();
        due("the first", x.world(100, 100, CAP), 10_000);
        for (int i = 2; i < 512; i++) {
            int at = i % 20;
            due("call " + i, x.add(0, at, at, at + 10, at + 10, 1_000), 121_000L * (i - 1));
        }
        due("the last", x.sum(0, 0, 0, 99, 99), 121_000L * 510);
    }

    /** The same acts on a small grid and on one in which each cell is a square of many. */
    private static final class Scaled {
        final Random random;
        final int w;
        final int h;
        final int by;
        final long square;
        final StockGrid small = new StockGrid();
        final StockGrid great = new StockGrid();
        final String name;

        Scaled(int seed) {
            random = new Random(seed);
            w = 1 + random.nextInt(12);
            h = 1 + random.nextInt(12);
            // A move by two cells goes no further than DX, DY may.
            by = 1 + random.nextInt(Math.min(4_999, 10_000 / Math.max(w, h)));
            square = (long) by * by;
            name = "seed " + seed + ", " + w + " by " + h + ", " + by + " times: ";
        }

        void go() {
            long cap = random.nextBoolean() ? 20 : 9_000_000_000L;
            small.world(w, h, cap);
            due(name + "world", great.world(w * by, h * by, cap), w * h * square);
            for (int i = 0; i < 200; i++) {
                int[] r = {random.nextInt(w), random.nextInt(h), 0, 0};
                r[2] = r[0] + random.nextInt(w - r[0]);
                r[3] = r[1] + random.nextInt(h - r[1]);
                int[] s = {r[0] * by, r[1] * by, (r[2] + 1) * by - 1, (r[3] + 1) * by - 1};
                int good = random.nextInt(3);
                if (i % 2 == 0) {
                    act(good, r, s, cap > 20 ? 1_000_000_000 : 9);
                } else {
                    ask(good, r, s);
                    askWhere(good);
                }
            }
        }

        /** Units are so many times more; codes are the same. */
        long times(long answer, long by) {
            return answer < 0 ? answer : answer * by;
        }

        void act(int g, int[] r, int[] s, int most) {
            switch (random.nextInt(9)) {
                case 0: case 1: case 2: {
                    int v = (random.nextInt(4) == 0 ? -1 : 1) * (1 + random.nextInt(most));
                    due(name + "add", great.add(g, s[0], s[1], s[2], s[3], v),
                            times(small.add(g, r[0], r[1], r[2], r[3], v), square));
                    break;
                }
                case 3: case 4: {
                    int dx = random.nextInt(5) - 2;
                    int dy = random.nextInt(5) - 2;
                    due(name + "move", great.move(g, s[0], s[1], s[2], s[3], dx * by, dy * by),
                            times(small.move(g, r[0], r[1], r[2], r[3], dx, dy), square));
                    break;
                }
                case 5:
                    if (small.sum(g, r[0], r[1], r[2], r[3]) % ((r[2] - r[0] + 1) * (r[3] - r[1] + 1)) == 0) {
                        due(name + "level", great.level(g, s[0], s[1], s[2], s[3]),
                                small.level(g, r[0], r[1], r[2], r[3]));
                    }
                    break;
                case 6: {
                    long limit = small.sum(-1, r[0], r[1], r[2], r[3]) + random.nextInt(most) - 1;
                    int zone = random.nextInt(6);
                    due(name + "zone", great.zone(zone, s[0], s[1], s[2], s[3], limit * square),
                            times(small.zone(zone, r[0], r[1], r[2], r[3], limit), square));
                    due(name + "zoneAt", great.zoneAt(zone, 5), times(small.zoneAt(zone, 5), square));
                    break;
                }
                case 7: due(name + "begin", great.begin(), small.begin()); break;
                default:
                    if (random.nextBoolean()) {
                        due(name + "commit", great.commit(), small.commit());
                    } else {
                        due(name + "cancel", great.cancel(), small.cancel());
                    }
            }
        }

        void ask(int g, int[] r, int[] s) {
            int all = random.nextInt(4) - 1;
            long t = small.at(all, r[0], r[1]);
            long cells = (long) (r[2] - r[0] + 1) * (r[3] - r[1] + 1);
            long k = 1 + (random.nextLong() >>> 1) % (cells * square);
            due(name + "sum", great.sum(all, s[0], s[1], s[2], s[3]), small.sum(all, r[0], r[1], r[2], r[3]) * square);
            due(name + "at", great.at(all, s[0] + by - 1, s[1]), t);
            due(name + "least", great.bound(all, s[0], s[1], s[2], s[3], 0), small.bound(all, r[0], r[1], r[2], r[3], 0));
            due(name + "most", great.bound(all, s[0], s[1], s[2], s[3], 1), small.bound(all, r[0], r[1], r[2], r[3], 1));
            due(name + "empty", great.empty(s[0], s[1], s[2], s[3]), small.empty(r[0], r[1], r[2], r[3]) * square);
            due(name + "atLeast", great.atLeast(all, s[0], s[1], s[2], s[3], t),
                    small.atLeast(all, r[0], r[1], r[2], r[3], t) * square);
            due(name + "value", great.value(all, s[0], s[1], s[2], s[3], k),
                    small.value(all, r[0], r[1], r[2], r[3], (k - 1) / square + 1));
            due(name + "upper", great.share(g, s[0], s[1], s[2], s[3], 0), small.share(g, r[0], r[1], r[2], r[3], 0));
            due(name + "lower", great.share(g, s[0], s[1], s[2], s[3], 1), small.share(g, r[0], r[1], r[2], r[3], 1));
            due(name + "before", great.before(0, g, s[0], s[1], s[2], s[3]),
                    times(small.before(0, g, r[0], r[1], r[2], r[3]), square));
            long above = r[1] == 0 ? 0 : small.sum(g, 0, 0, w - 1, r[1] - 1);
            long beside = r[0] == 0 ? 0 : small.sum(g, 0, r[1], r[0] - 1, r[1]);
            due(name + "ahead", great.ahead(g, 0, s[0], s[1]), above * square + beside * by);
        }

        void askWhere(int g) {
            int a = 1 + random.nextInt(w);
            int b = 1 + random.nextInt(h);
            for (int what = 0; what < 3; what++) {
                due(name + "window " + a + " " + b, great.window(g, a * by, b * by, what),
                        small.window(g, a, b, what) * (what == 2 ? square : by));
            }
            for (int what = 0; what < 5; what++) {
                long hole = small.hole(what);
                long edge = what < 2 ? hole * by : (hole + 1) * by - 1;
                due(name + "hole", great.hole(what), hole < 0 ? hole : what == 4 ? hole * square : edge);
            }
            for (int axis = 0; axis < 2; axis++) {
                due(name + "line", great.line(g, axis, 0), small.line(g, axis, 0) * by);
                due(name + "line's units", great.line(g, axis, 1), small.line(g, axis, 1) * by);
                due(name + "borders", great.borders(axis, 0), small.borders(axis, 0));
                due(name + "late", great.borders(axis, 1), small.borders(axis, 1));
                int i = random.nextInt(13);
                due(name + "border", great.border(axis, i), times(small.border(axis, i), by));
            }
            due(name + "standing", great.count(4), small.count(4));
        }
    }

    /** No call throws or answers what it can't, whatever it is given on whatever grid. */
    private static void anyArguments(int seed) {
        Random random = new Random(seed);
        StockGrid x = new StockGrid();
        String[] names = CALLS.keySet().toArray(new String[0]);
        int[] sides = {1, 2, 47, 48, 49, 9_999, 10_000};
        x.world(sides[random.nextInt(7)], sides[random.nextInt(7)], random.nextBoolean() ? CAP : 7);
        for (int i = 1; i < 500; i++) {
            String name = names[random.nextInt(names.length)];
            if (name.equals("world") && random.nextInt(10) != 0) {
                name = "add";
            }
            long[] args = someArguments(random, x, name);
            long answer = call(x, name, args);
            asked++;
            if (answer < -9 && (answer < -33 || answer > -31 || !name.equals("run"))) {
                due("seed " + seed + ": " + told(name, args), answer, 0);
            }
        }
        int right = (int) x.count(1) - 1;
        int bottom = (int) x.count(2) - 1;
        long all = 0;
        for (int good = 0; good < 3; good++) {
            all += x.sum(good, 0, 0, right, bottom);
        }
        due("seed " + seed + ": all goods", x.sum(-1, 0, 0, right, bottom), all);
        due("seed " + seed + ": no cell below 0", x.bound(-1, 0, 0, right, bottom, 0) >= 0 ? 0 : 1, 0);
        due("seed " + seed + ": no cell above CAP", x.bound(-1, 0, 0, right, bottom, 1) <= x.count(6) ? 0 : 1, 0);
    }

    private static long[] someArguments(Random random, StockGrid x, String name) {
        Class<?>[] types = CALLS.get(name).getParameterTypes();
        long[] args = new long[types.length];
        boolean fits = random.nextInt(3) != 0;
        for (int i = 0; i < args.length; i++) {
            long[] pool = {0, 1, 2, 3, -1, -2, x.count(1) - 1, x.count(2) - 1, x.count(1), x.count(2), LOW, HIGH,
                1_000_000_000, -1_000_000_000, 9_999, -9_999, 10_000, random.nextInt(), random.nextInt(10_000)};
            args[i] = pool[random.nextInt(pool.length)];
            if (types[i] == long.class) {
                long[] greats = {TOP, TOP + 1, Long.MAX_VALUE, Long.MIN_VALUE, CAP, CAP + 1, random.nextLong()};
                args[i] = random.nextBoolean() ? greats[random.nextInt(7)] : args[i];
            }
        }
        int at = name.equals("empty") ? 0 : name.equals("before") ? 2 : 1;
        if (fits && args.length >= at + 4 && !name.equals("feed")) {
            long[] xs = {random.nextInt((int) x.count(1)), random.nextInt((int) x.count(1))};
            long[] ys = {random.nextInt((int) x.count(2)), random.nextInt((int) x.count(2))};
            args[0] = at == 0 ? args[0] : random.nextInt(3);
            args[at] = Math.min(xs[0], xs[1]);
            args[at + 2] = Math.max(xs[0], xs[1]);
            args[at + 1] = Math.min(ys[0], ys[1]);
            args[at + 3] = Math.max(ys[0], ys[1]);
        }
        return args;
    }

    /** The README's own examples: each call answers what its comment tells. */
    private static void readme() throws Exception {
        StockGrid floor = new StockGrid();
        Matcher lines = Pattern.compile("floor\\.(\\w+)\\(([^)]*)\\); *// (.*)").matcher(Files.readString(Path.of("README.md")));
        int seen = 0;
        while (lines.find()) {
            String[] given = lines.group(2).isEmpty() ? new String[0] : lines.group(2).split(", *");
            long[] args = new long[given.length];
            for (int i = 0; i < given.length; i++) {
                args[i] = given[i].equals("StockGrid.NONE") ? StockGrid.NONE : Long.decode(given[i]);
            }
            long answer = call(floor, lines.group(1), args);
            Matcher number = Pattern.compile("answers (-?\\d+)").matcher(lines.group(3));
            due("README tells what answers: " + lines.group(), number.find() ? 1 : 0, 1);
            due("README: " + lines.group(), answer, Long.parseLong(number.group(1)));
            seen++;
        }
        due("calls in the README's examples", seen, 15);
    }
}
