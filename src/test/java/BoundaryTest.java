import java.nio.charset.StandardCharsets;
import java.util.Arrays;

/**
 * Each sentence of the document that names a boundary case, under the promise that it bounds: too
 * small, too large, empty, full, the first beyond, what goes ahead of what, and that a refused
 * call changes nothing. A failure tells the promise and the sentence.
 */
public final class BoundaryTest {
    private static final long TOP = 3_000_000_000_000_000_000L;
    private static final long CAP = 1_000_000_000_000L;
    private static final int BILLION = 1_000_000_000;
    private static final int LOW = Integer.MIN_VALUE;
    private static final int HIGH = Integer.MAX_VALUE;
    private static final long LEAST = Long.MIN_VALUE;
    private static final long MOST = Long.MAX_VALUE;

    private static final int[] BAD_GOODS = {3, 4, -2, LOW, HIGH};
    private static final int[] BAD_PAIR = {-1, 2, LOW, HIGH};
    /** Of a grid 8 wide, 6 high: none of these is a RECTANGLE in it. */
    private static final int[][] BAD_RECTS = {
        {-1, 0, 3, 3}, {0, -1, 3, 3}, {0, 0, 8, 3}, {0, 0, 3, 6}, {4, 0, 3, 3}, {0, 4, 3, 3},
        {-1, -1, -1, -1}, {8, 0, 8, 0}, {0, 6, 0, 6}, {LOW, 0, 3, 3}, {0, LOW, 3, 3},
        {0, 0, HIGH, 3}, {0, 0, 3, HIGH}, {LOW, LOW, HIGH, HIGH}, {HIGH, 0, LOW, 3}, {0, HIGH, 3, LOW},
        {7, 5, 8, 6}, {HIGH, HIGH, HIGH, HIGH}, {LOW, LOW, LOW, LOW}};

    private interface Build {
        void on(StockGrid x);
    }

    private interface Ask {
        long of(StockGrid x);
    }

    private interface AskRect {
        long of(StockGrid x, int x1, int y1, int x2, int y2);
    }

    private interface AskGood {
        long of(StockGrid x, int good);
    }

    private static int promise = 0;
    private static String sentence = "";
    private static int wrong = 0;
    private static final int[] asked = new int[35];

    public static void main(String[] args) {
        newObject();
        world();
        worldKeeps();
        add();
        addOrder();
        addTotal();
        addBorders();
        pick();
        pickLast();
        pickBorders();
        move();
        moveOrder();
        moveBorders();
        level();
        levelOrder();
        levelBorders();
        zone();
        zoneAt();
        begin();
        commit();
        cancel();
        cancelForgotten();
        feed();
        run();
        runDoes();
        fault();
        textWords();
        textNumbers();
        textActs();
        sum();
        at();
        bound();
        empty();
        share();
        atLeast();
        value();
        hole();
        before();
        find();
        findIn();
        touched();
        ahead();
        depot();
        haul();
        window();
        line();
        borders();
        border();
        act();
        actForgotten();
        count();
        refusedChangeNothing();
        fullOfBorders();
        allSmallGrids();
        tell();
    }

    private static void tell() {
        int all = 0;
        for (int i = 1; i < asked.length; i++) {
            all += asked[i];
            if (asked[i] == 0) {
                wrong++;
                System.out.println("promise " + i + ": nothing was asked");
            }
        }
        System.out.println(all + " answers asked, " + wrong + " are not as due");
        if (wrong != 0) {
            System.exit(1);
        }
    }

    private static void of(int number, String words) {
        promise = number;
        sentence = words;
    }

    private static void due(String call, long got, long want) {
        asked[promise]++;
        if (got != want) {
            wrong++;
            System.out.println("promise " + promise + " (" + sentence + "): " + call + " answered " + got
                    + ", due is " + want);
        }
    }

    private static void due(String call, String got, String want) {
        asked[promise]++;
        if (!got.equals(want)) {
            wrong++;
            System.out.println("promise " + promise + " (" + sentence + "): " + call + " answered " + got
                    + ", due is " + want);
        }
    }

    private static StockGrid grid(int w, int h, long cap) {
        StockGrid x = new StockGrid();
        x.world(w, h, cap);
        return x;
    }

    /** 8 wide, 6 high: some of each good, one open, a zone, bytes on the tape, a fault told. */
    private static void fillSome(StockGrid x) {
        x.world(8, 6, 100);
        x.add(0, 1, 1, 4, 3, 7);
        x.add(1, 3, 2, 6, 4, 5);
        x.add(2, 0, 0, 7, 5, 1);
        x.zone(1, 2, 2, 5, 5, 400);
        tape(x, "begin;x");
        x.run(7);
        x.begin();
        x.pick(0, 0, 0, 7, 5, 10);
        tape(x, "begin;");
    }

    private static StockGrid some() {
        StockGrid x = new StockGrid();
        fillSome(x);
        return x;
    }

    private static int tape(StockGrid x, String text) {
        byte[] bytes = text.getBytes(StandardCharsets.ISO_8859_1);
        for (int i = 0; i < bytes.length; i += 20) {
            int[] five = new int[5];
            for (int j = 0; j < 20; j++) {
                int each = i + j < bytes.length ? bytes[i + j] & 255 : '~';
                five[j / 4] = five[j / 4] << 8 | each;
            }
            x.feed(five[0], five[1], five[2], five[3], five[4]);
        }
        return bytes.length;
    }

    private static int tellText(StockGrid x, String text) {
        return x.run(tape(x, text));
    }

    private static String bordersOf(StockGrid x, int axis) {
        StringBuilder told = new StringBuilder();
        int many = x.borders(axis, 0);
        for (int i = 0; i < many; i++) {
            told.append(i == 0 ? "" : " ").append(x.border(axis, i));
        }
        return told.toString();
    }

    /**
     * All that calls can tell of an object, in no more of them than it has left; at its end all
     * that is open is cancelled.
     */
    private static String stateOf(StockGrid x) {
        StringBuilder told = new StringBuilder();
        for (int what = 0; what < 7; what++) {
            told.append(x.count(what)).append(' ');
        }
        for (int axis = 0; axis < 2; axis++) {
            told.append(bordersOf(x, axis)).append(" late ").append(x.borders(axis, 1)).append('\n');
        }
        int acts = (int) x.count(4);
        for (int i = 0; i < acts; i++) {
            for (int what = 0; what < 7; what++) {
                told.append(x.act(i, what)).append(' ');
            }
        }
        for (int zone = 0; zone < 6; zone++) {
            for (int what = 0; what < 6; what++) {
                told.append(x.zoneAt(zone, what)).append(' ');
            }
        }
        tellCells(x, told);
        for (int open = (int) x.count(3); open > 0; open--) {
            for (int good = 0; good < 3; good++) {
                told.append(x.before(open - 1, good, 0, 0, 4, 1)).append(' ');
            }
            told.append(x.cancel()).append(' ').append(x.count(4)).append('\n');
        }
        tellCells(x, told);
        told.append(x.fault(0)).append(' ').append(x.fault(1)).append(' ').append(x.fault(2)).append(' ');
        told.append(x.run((int) x.count(5))).append(' ').append(x.fault(1));
        return told.toString();
    }

    private static void tellCells(StockGrid x, StringBuilder told) {
        int right = (int) x.count(1) - 1;
        int bottom = (int) x.count(2) - 1;
        for (int good = 0; good < 3; good++) {
            for (int y = 0; y <= bottom && y < 6; y++) {
                told.append(x.sum(good, 0, y, right, y)).append(' ').append(x.ahead(good, 0, right / 2, y)).append(' ');
            }
            for (int i = 0; i <= right && i < 8; i++) {
                told.append(x.sum(good, i, 0, i, bottom)).append(' ');
            }
            told.append(x.sum(good, 0, 0, right, bottom)).append('\n');
        }
    }

    /** The call is refused by the code, and an object without it tells the same of itself. */
    private static void refused(String name, long code, Build build, Ask call) {
        StockGrid with = new StockGrid();
        StockGrid without = new StockGrid();
        build.on(with);
        build.on(without);
        due(name, call.of(with), code);
        due(name + ", what stands then", stateOf(with), stateOf(without));
    }

    private static void badRects(AskRect call) {
        StockGrid x = some();
        for (int[] r : BAD_RECTS) {
            due("RECTANGLE " + Arrays.toString(r), call.of(x, r[0], r[1], r[2], r[3]), -2);
        }
    }

    private static void badGoods(AskGood call) {
        StockGrid x = some();
        for (int good : BAD_GOODS) {
            due("GOOD " + good, call.of(x, good), -2);
        }
    }

    private static void badGoodsAndNone(AskGood call) {
        badGoods(call);
        due("GOOD NONE, which is not told", call.of(some(), -1), -2);
    }

    private static void badWhats(AskGood call, int... whats) {
        StockGrid x = some();
        for (int what : whats) {
            due("" + what, call.of(x, what), -2);
        }
    }

    private static void newObject() {
        of(1, "A GRID of one CELL");
        StockGrid x = new StockGrid();
        due("CELLS", x.count(0), 1);
        due("the cell", x.at(-1, 0, 0), 0);
        due("no cell beside it", x.at(0, 1, 0), -2);
        due("no cell below it", x.at(0, 0, 1), -2);
        due("empty", x.empty(0, 0, 0, 0), 1);
        due("hole", x.hole(4), 1);
        due("value of the first cell", x.value(0, 0, 0, 0, 0, 1), 0);
        due("value of a second cell", x.value(0, 0, 0, 0, 0, 2), -1);
        due("window of it", x.window(0, 1, 1, 2), 0);
        due("window wider", x.window(0, 2, 1, 2), -3);
        due("window higher", x.window(0, 1, 2, 2), -3);
        of(1, "W and H 1 and 1 at first, CAP 1,000,000,000,000 at first");
        due("W", x.count(1), 1);
        due("H", x.count(2), 1);
        due("CAP", x.count(6), CAP);
        of(1, "0 UNITS at first, no ZONE, BORDERS 0 alone, nothing open, STANDING, on THE TAPE");
        for (int good = -1; good < 3; good++) {
            due("sum of " + good, x.sum(good, 0, 0, 0, 0), 0);
        }
        for (int zone = 0; zone < 6; zone++) {
            due("zone " + zone, x.zoneAt(zone, 0), -1);
        }
        due("borders across", bordersOf(x, 0), "0");
        due("borders down", bordersOf(x, 1), "0");
        due("open", x.count(3), 0);
        due("standing", x.count(4), 0);
        due("tape", x.count(5), 0);
        due("no move fits", x.move(0, 0, 0, 0, 0, 1, 0), -2);
        due("a level does", x.level(0, 0, 0, 0, 0), 0);
        due("no border comes by 1, as that is W", bordersOf(x, 0), "0");
    }

    private static void world() {
        of(2, "W, H 1 to 10,000, CAP 1 to 1,000,000,000,000; -3: W, H, CAP");
        StockGrid x = new StockGrid();
        due("1 by 1", x.world(1, 1, 1), 1);
        due("W 10,000", x.world(10_000, 1, 1), 10_000);
        due("H 10,000", x.world(1, 10_000, 1), 10_000);
        due("both, and the greatest CAP", x.world(10_000, 10_000, CAP), 100_000_000);
        int[] sides = {0, -1, 10_001, LOW, HIGH};
        for (int side : sides) {
            due("W " + side, x.world(side, 1, 1), -3);
            due("H " + side, x.world(1, side, 1), -3);
        }
        long[] caps = {0, -1, CAP + 1, LEAST, MOST, 1L << 32};
        for (int i = 0; i < 5; i++) {
            due("CAP " + caps[i], x.world(1, 1, caps[i]), -3);
        }
        due("CAP 2 to the 32nd", x.world(1, 1, caps[5]), 1);
        of(2, "CAP 1: one UNIT of all GOODS together in a CELL");
        x.world(2, 2, 1);
        due("one", x.add(0, 0, 0, 0, 0, 1), 1);
        due("one more of it", x.add(0, 0, 0, 0, 0, 1), -7);
        due("one more of another", x.add(2, 0, 0, 0, 0, 1), -7);
        due("one beside it", x.add(2, 1, 1, 1, 1, 1), 1);
        of(2, "CAP 1,000,000,000,000, full");
        fullCap();
    }

    /** No 1,000 adds fit an object's calls: 1,000 cells of a billion are moved upon one. */
    private static void fullCap() {
        StockGrid x = grid(1_000, 1, CAP);
        x.add(1, 0, 0, 999, 0, BILLION);
        int many = 1_000;
        for (int by : new int[] {2, 2, 2, 5, 5, 5}) {
            many /= by;
            for (int i = 1; i < by; i++) {
                due("move", x.move(1, many * i, 0, many * i + many - 1, 0, -many * i, 0) > 0 ? 1 : 0, 1);
            }
        }
        due("a cell has CAP", x.at(1, 0, 0), CAP);
        due("one more", x.add(0, 0, 0, 0, 0, 1), -7);
        due("one beside it", x.add(0, 1, 0, 1, 0, 1), 1);
        due("moved upon it", x.move(0, 1, 0, 1, 0, -1, 0), -7);
        due("one less of it", x.add(1, 0, 0, 0, 0, -1), CAP - 1);
        due("then it fits", x.move(0, 1, 0, 1, 0, -1, 0), 1);
    }

    private static void worldKeeps() {
        of(2, "all CELLS are empty, BORDERS those at 0, nothing is open, nothing STANDING");
        StockGrid x = some();
        for (int i = 2; i <= 8; i++) {
            x.begin();
        }
        due("8 are open", x.count(3), 8);
        due("world as before", x.world(8, 6, 100), 48);
        due("cells", x.empty(0, 0, 7, 5), 48);
        due("borders", bordersOf(x, 0) + bordersOf(x, 1), "00");
        due("late", x.borders(0, 1) + x.borders(1, 1), 0);
        due("open", x.count(3), 0);
        due("commit", x.commit(), -8);
        due("before", x.before(0, 0, 0, 0, 0, 0), -2);
        due("standing", x.count(4), 0);
        due("act", x.act(0, 0), -2);
        of(7, "world() does away with all");
        due("zone", x.zoneAt(1, 4), -1);
        due("none refuses", x.add(0, 0, 0, 7, 5, 100), 4800);
        of(2, "THE TAPE, what fault() tells stay");
        due("tape", x.count(5), 20);
        due("fault", x.fault(0), 1);
        due("place", x.fault(1), 6);
        due("the tape is as it was", x.run(6), 1);
        tellText(x, "commit;commit;");
        x.world(3, 3, 3);
        due("code", x.fault(2), -8);
        of(2, "a new one begins at nothing");
        due("begin", x.begin(), 1);
        due("before", x.before(0, 0, 0, 0, 2, 2), 0);
        due("cancel", x.cancel(), 0);
    }

    private static void add() {
        of(3, "v -1,000,000,000 to 1,000,000,000, not 0");
        StockGrid x = grid(8, 6, CAP);
        due("greatest", x.add(0, 0, 0, 0, 0, BILLION), BILLION);
        due("least", x.add(0, 0, 0, 0, 0, -BILLION), 0);
        due("1", x.add(0, 0, 0, 0, 0, 1), 1);
        due("-1", x.add(0, 0, 0, 0, 0, -1), 0);
        for (int v : new int[] {0, BILLION + 1, -BILLION - 1, LOW, HIGH}) {
            due("v " + v, x.add(0, 0, 0, 7, 5, v), -3);
        }
        of(3, "-2: the GOOD, RECTANGLE; -3: v (in this order)");
        badGoodsAndNone((g, good) -> g.add(good, 0, 0, 1, 1, 1));
        badGoodsAndNone((g, good) -> g.add(good, 0, 0, 1, 1, 0));
        badRects((g, x1, y1, x2, y2) -> g.add(0, x1, y1, x2, y2, 1));
        badRects((g, x1, y1, x2, y2) -> g.add(0, x1, y1, x2, y2, 0));
        due("v ahead of -5", x.add(0, 0, 0, 7, 5, -BILLION - 1), -3);
        of(3, "RECTANGLE: both ends too");
        due("one cell", x.add(1, 7, 5, 7, 5, 4), 4);
        due("all", x.add(1, 0, 0, 7, 5, 1), 52);
        due("a row", x.add(1, 0, 5, 7, 5, 1), 60);
        due("a column", x.add(1, 7, 0, 7, 5, 1), 66);
        due("the corner", x.at(1, 7, 5), 7);
        of(3, "-5 some CELL would have less than 0 of it");
        due("down to 0", x.add(1, 0, 0, 6, 4, -1), 31);
        due("one below in one cell", x.add(1, 6, 4, 7, 5, -2), -5);
        due("all of that cell", x.add(1, 7, 5, 7, 5, -7), 24);
        due("of a good that is not there, though others are", x.add(2, 7, 4, 7, 4, -1), -5);
        of(3, "UNITS of that GOOD in all CELLS then");
        due("of it alone", x.add(2, 0, 0, 1, 1, 3), 12);
        due("none left", x.add(2, 0, 0, 1, 1, -3), 0);
    }

    private static void addOrder() {
        of(3, "-7 more than CAP, of all GOODS together");
        StockGrid x = grid(8, 6, 10);
        x.add(0, 0, 0, 7, 5, 4);
        x.add(1, 3, 3, 3, 3, 3);
        due("up to CAP", x.add(2, 2, 2, 4, 4, 3), 27);
        due("one above in one cell", x.add(2, 2, 2, 4, 4, 1), -7);
        due("up to CAP beside it", x.add(2, 2, 2, 2, 4, 3), 36);
        due("greatest", x.add(2, 0, 0, 0, 0, BILLION), -7);
        of(3, "-9 some ZONE that gets some by it more than its LIMIT");
        StockGrid z = grid(8, 6, 10);
        z.add(0, 2, 2, 3, 3, 2);
        z.zone(0, 0, 0, 7, 5, TOP);
        z.zone(5, 2, 2, 4, 4, 10);
        due("up to its LIMIT", z.add(1, 4, 4, 5, 5, 2), 8);
        due("one above", z.add(1, 4, 4, 5, 5, 1), -9);
        due("of another good", z.add(2, 2, 2, 2, 2, 1), -9);
        due("beside it", z.add(2, 5, 2, 7, 5, 1), 12);
        due("above it", z.add(2, 2, 1, 4, 1, 1), 15);
        due("across it by a cell", z.add(2, 2, 1, 2, 2, 1), -9);
        due("less of what is in it", z.add(0, 2, 2, 3, 3, -1), 4);
        due("as many again", z.add(2, 2, 2, 3, 3, 1), 19);
        due("it is full", z.zoneAt(5, 5), 0);
        of(3, "a ZONE that has more by what was CANCELLED, and gets none");
        z.begin();
        z.add(2, 2, 2, 3, 3, -1);
        due("LIMIT", z.zone(5, 2, 2, 4, 4, 6), 6);
        z.cancel();
        due("less in it", z.add(2, 2, 2, 2, 2, -1), 18);
        due("beside it", z.add(2, 0, 0, 0, 5, 1), 24);
        due("in it", z.add(2, 2, 2, 2, 2, 1), -9);
        of(3, "-5, -7, -9, -6, -4 (in this order)");
        due("-7 ahead of -9", z.add(2, 2, 2, 2, 2, 10), -7);
    }

    private static void addTotal() {
        of(3, "-6 the GOOD more than 3,000,000,000,000,000,000 in all CELLS");
        StockGrid x = grid(10_000, 10_000, CAP);
        for (int i = 0; i < 29; i++) {
            x.add(0, 0, 0, 9_999, 9_999, BILLION);
        }
        due("up to it", x.add(0, 0, 0, 9_999, 9_999, BILLION), TOP);
        due("one above", x.add(0, 9_999, 9_999, 9_999, 9_999, 1), -6);
        due("all of them again", x.add(0, 0, 0, 9_999, 9_999, BILLION), -6);
        due("of another good", x.add(1, 9_999, 9_999, 9_999, 9_999, 1), 1);
        due("one less", x.add(0, 0, 0, 0, 0, -1), TOP - 1);
        due("two more", x.add(0, 0, 0, 1, 0, 1), -6);
        due("one more", x.add(0, 1, 0, 1, 0, 1), TOP);
        of(3, "-9 ahead of -6, -7 ahead of -6");
        x.zone(3, 5, 5, 5, 5, 30L * BILLION);
        due("-9", x.add(0, 5, 5, 5, 5, 1), -9);
        due("outside it", x.add(0, 6, 5, 6, 5, 1), -6);
        StockGrid y = grid(10_000, 10_000, 30L * BILLION);
        for (int i = 0; i < 30; i++) {
            y.add(0, 0, 0, 9_999, 9_999, BILLION);
        }
        due("-7", y.add(0, 5, 5, 5, 5, 1), -7);
        of(3, "-6 ahead of -4");
        for (int i = 0; i < 23; i++) {
            x.add(1, 4 * i + 10, 0, 4 * i + 11, 9_999, 1);
        }
        due("48 borders", x.borders(0, 0), 48);
        due("-6", x.add(0, 7_000, 0, 7_001, 0, 1), -6);
        due("-4 without it", x.add(2, 7_000, 0, 7_001, 0, 1), -4);
    }

    private static void fillAcross(StockGrid x, int w, int h, int borders) {
        x.world(w, h, 100);
        for (int at = 1; at < borders; at++) {
            x.add(0, at, 0, w - 1, h - 1, 1);
        }
    }

    private static void fillDown(StockGrid x, int w, int h, int borders) {
        x.world(w, h, 100);
        for (int at = 1; at < borders; at++) {
            x.add(0, 0, at, w - 1, h - 1, 1);
        }
    }

    private static void addBorders() {
        of(3, "-4 there would be more than 48 BORDERS of an axis");
        StockGrid x = new StockGrid();
        fillAcross(x, 100, 60, 46);
        due("46", x.borders(0, 0), 46);
        due("two more", x.add(1, 70, 0, 79, 0, 1), 10);
        due("48", x.borders(0, 0), 48);
        due("one more", x.add(1, 71, 0, 79, 0, 1), -4);
        due("one that is there and W", x.add(1, 80, 0, 99, 0, 1), 30);
        due("those that are there", x.add(1, 1, 0, 79, 0, 1), 109);
        due("0 and W", x.add(1, 0, 0, 99, 0, 1), 209);
        due("down, as before", x.add(1, 0, 50, 99, 50, 1), 309);
        StockGrid y = new StockGrid();
        fillDown(y, 60, 100, 47);
        due("two more down", y.add(1, 0, 70, 0, 79, 1), -4);
        due("one more down, up to H", y.add(1, 0, 70, 0, 99, 1), 30);
        due("48 down", y.borders(1, 0), 48);
        due("one more", y.add(1, 0, 71, 0, 99, 1), -4);
        due("none came by the refused ones", y.border(1, 47), 70);
        of(3, "-5, -7, -9 ahead of -4");
        due("-5", y.add(2, 0, 71, 0, 99, -1), -5);
        due("-7", y.add(2, 0, 71, 0, 99, 100), -7);
        y.zone(0, 0, 99, 0, 99, 50);
        due("-9", y.add(2, 0, 71, 0, 99, 4), -9);
        due("-4", y.add(2, 0, 71, 0, 99, 3), -4);
        of(3, "a grid of 48 rows takes all borders there can be");
        StockGrid z = new StockGrid();
        fillDown(z, 5, 48, 48);
        due("48", z.borders(1, 0), 48);
        due("each row", z.add(0, 0, 47, 4, 47, 1), 5 * 47 * 24 + 5);
    }

    private static void pick() {
        of(4, "n 1 to 3,000,000,000,000,000,000; -3: n");
        StockGrid x = grid(8, 6, 100);
        x.add(0, 2, 1, 5, 4, 3);
        due("1", x.pick(0, 0, 0, 7, 5, 1), 10);
        for (long n : new long[] {0, -1, LEAST, TOP + 1, MOST}) {
            due("n " + n, x.pick(0, 0, 0, 7, 5, n), -3);
        }
        due("greatest", x.pick(0, 0, 0, 7, 5, TOP), -5);
        of(4, "-2: the GOOD, RECTANGLE; -3: n (in this order)");
        badGoodsAndNone((g, good) -> g.pick(good, 0, 0, 7, 5, 1));
        badGoodsAndNone((g, good) -> g.pick(good, 0, 0, 7, 5, 0));
        badRects((g, x1, y1, x2, y2) -> g.pick(2, x1, y1, x2, y2, 1));
        badRects((g, x1, y1, x2, y2) -> g.pick(2, x1, y1, x2, y2, 0));
        of(4, "-5 there are fewer than n");
        due("one more than all", x.pick(0, 0, 0, 7, 5, 48), -5);
        due("one more than the rectangle's", x.pick(0, 5, 4, 7, 5, 4), -5);
        due("none in it", x.pick(0, 6, 0, 7, 5, 1), -5);
        due("none of it", x.pick(1, 0, 0, 7, 5, 1), -5);
        due("all", x.pick(0, 0, 0, 7, 5, 47), 37);
        due("then none", x.pick(0, 0, 0, 7, 5, 1), -5);
        of(4, "the greatest n that there can be");
        StockGrid y = grid(10_000, 10_000, CAP);
        for (int i = 0; i < 30; i++) {
            y.add(2, 0, 0, 9_999, 9_999, BILLION);
        }
        due("all but one", y.pick(2, 0, 0, 9_999, 9_999, TOP - 1), 99_999_999);
        due("the one", y.at(2, 9_999, 9_999), 1);
        due("its number", y.pick(2, 0, 0, 9_999, 9_999, 1), 99_999_999);
    }

    private static void pickLast() {
        of(4, "in ROWS' order, from each all there are: the CELL that is come to last may keep some");
        StockGrid x = grid(8, 6, 100);
        x.add(0, 2, 1, 5, 4, 3);
        x.add(0, 3, 1, 4, 4, -3);
        due("all of the first cell", x.pick(0, 0, 0, 7, 5, 3), 10);
        due("one of the next that has any", x.pick(0, 0, 0, 7, 5, 1), 13);
        due("it keeps two", x.at(0, 5, 1), 2);
        due("those two and one of the next row", x.pick(0, 0, 0, 7, 5, 3), 18);
        due("that row's first", x.at(0, 2, 2), 2);
        due("from columns behind it alone", x.pick(0, 3, 0, 7, 5, 4), 29);
        due("the first column is as it was", x.sum(0, 2, 0, 2, 5), 8);
        due("(5, 2) gave all", x.at(0, 5, 2), 0);
        due("(5, 3) keeps two", x.at(0, 5, 3), 2);
        due("from a cell", x.pick(0, 5, 4, 5, 4, 3), 37);
        due("it has none", x.at(0, 5, 4), 0);
        due("standing", x.count(4), 7);
    }

    private static void pickBorders() {
        of(4, "BORDERS by it: those of its RECTANGLE, and x, x and 1, y, y and 1");
        StockGrid x = grid(50, 40, 100);
        x.add(0, 0, 0, 49, 39, 1);
        x.pick(0, 10, 20, 19, 29, 15);
        due("across", bordersOf(x, 0), "0 10 14 15 20");
        due("down", bordersOf(x, 1), "0 20 21 22 30");
        due("W, H are none", x.pick(0, 49, 39, 49, 39, 1), 1999);
        due("across", bordersOf(x, 0), "0 10 14 15 20 49");
        due("down", bordersOf(x, 1), "0 20 21 22 30 39");
        due("the first cell", x.pick(0, 0, 0, 49, 39, 1), 0);
        due("across", bordersOf(x, 0), "0 1 10 14 15 20 49");
        due("down", bordersOf(x, 1), "0 1 20 21 22 30 39");
        of(4, "-5; -4 (in this order)");
        StockGrid y = new StockGrid();
        fillAcross(y, 100, 60, 45);
        due("four more", y.pick(0, 60, 0, 79, 0, 45), -4);
        due("none came", y.borders(0, 0), 45);
        due("-5 ahead of it", y.pick(0, 60, 0, 79, 0, 20 * 44 + 1), -5);
        due("three more", y.pick(0, 60, 0, 79, 0, 44), 60);
        due("48", y.borders(0, 0), 48);
        due("those that are there", y.pick(0, 60, 1, 79, 2, 44), 160);
        due("one more", y.pick(0, 60, 1, 79, 2, 1), -4);
        StockGrid z = new StockGrid();
        fillDown(z, 60, 100, 45);
        due("four more down", z.pick(0, 0, 60, 59, 79, 44 * 60 + 1), -4);
        due("three more down", z.pick(0, 0, 60, 59, 79, 44 * 60), 60 * 60 + 59);
        due("48 down", z.borders(1, 0), 48);
    }

    private static void move() {
        of(5, "DX, DY -9,999 to 9,999, not both 0; -3: DX, DY");
        StockGrid x = grid(10_000, 10_000, 100);
        x.add(0, 0, 0, 0, 0, 5);
        due("greatest", x.move(0, 0, 0, 0, 0, 9_999, 9_999), 5);
        due("least", x.move(0, 9_999, 9_999, 9_999, 9_999, -9_999, -9_999), 5);
        due("it is back", x.at(0, 0, 0), 5);
        due("DX 0", x.move(0, 0, 0, 0, 0, 0, 1), 5);
        due("DY 0", x.move(0, 0, 1, 0, 1, 1, 0), 5);
        due("both 0", x.move(0, 1, 1, 1, 1, 0, 0), -3);
        for (int by : new int[] {10_000, -10_000, LOW, HIGH}) {
            due("DX " + by, x.move(0, 1, 1, 1, 1, by, 1), -3);
            due("DY " + by, x.move(0, 1, 1, 1, 1, 1, by), -3);
        }
        of(5, "-2: the GOOD, RECTANGLE; -3: DX, DY; -2: the other RECTANGLE");
        badGoodsAndNone((g, good) -> g.move(good, 0, 0, 1, 1, 1, 1));
        badGoodsAndNone((g, good) -> g.move(good, 0, 0, 1, 1, 0, 0));
        badRects((g, x1, y1, x2, y2) -> g.move(0, x1, y1, x2, y2, 1, 1));
        badRects((g, x1, y1, x2, y2) -> g.move(0, x1, y1, x2, y2, 0, 0));
        StockGrid y = some();
        due("as far as it goes right", y.move(0, 0, 0, 3, 3, 4, 0) < 0 ? 1 : 0, 0);
        due("one further", y.move(0, 0, 0, 3, 3, 5, 0), -2);
        due("one further down", y.move(0, 0, 0, 3, 3, 0, 3), -2);
        due("as far as it goes down", y.move(0, 0, 0, 3, 3, 0, 2) < 0 ? 1 : 0, 0);
        due("one too far left", y.move(0, 3, 3, 4, 4, -4, 0), -2);
        due("as far as it goes left", y.move(0, 3, 3, 4, 4, -3, 0) < 0 ? 1 : 0, 0);
        due("one too far up", y.move(0, 3, 3, 4, 4, 0, -4), -2);
        due("as far as it goes up", y.move(0, 3, 3, 4, 4, 0, -3) < 0 ? 1 : 0, 0);
        due("the whole grid", y.move(0, 0, 0, 7, 5, 1, 0), -2);
        of(5, "0, too: it stands all the same");
        StockGrid z = grid(8, 6, 1);
        due("of none", z.move(1, 0, 0, 1, 1, 3, 3), 0);
        due("standing", z.count(4), 1);
        due("its borders", bordersOf(z, 0) + ", " + bordersOf(z, 1), "0 2 3 5, 0 2 3 5");
    }

    private static void moveOrder() {
        of(5, "a CELL that is in both RECTANGLES gives what it had, gets what comes");
        StockGrid x = grid(8, 6, 9);
        x.add(0, 0, 0, 0, 0, 9);
        x.add(0, 1, 0, 1, 0, 8);
        x.add(0, 2, 0, 2, 0, 1);
        due("9 8 1 one to the right", x.move(0, 0, 0, 1, 0, 1, 0), 17);
        due("gave", x.at(0, 0, 0), 0);
        due("gave and got: CAP is not in its way", x.at(0, 1, 0), 9);
        due("got upon what it had", x.at(0, 2, 0), 9);
        of(5, "-7 some CELL would have more than CAP behind it");
        x.add(1, 3, 0, 3, 0, 1);
        due("one too many by another good", x.move(0, 2, 0, 2, 0, 1, 0), -7);
        due("nothing moved", x.at(0, 2, 0), 9);
        due("that is full", x.move(1, 3, 0, 3, 0, -1, 0), -7);
        due("into what is empty then", x.move(0, 1, 0, 2, 0, -1, 0), 18);
        of(5, "-9 some ZONE that has more behind it than ahead of it more than its LIMIT");
        x.zone(2, 0, 1, 7, 1, 9);
        due("up to its LIMIT", x.move(0, 0, 0, 0, 0, 0, 1), 9);
        due("one above", x.move(1, 3, 0, 3, 0, 0, 1), -9);
        due("within it", x.move(0, 0, 1, 0, 1, 3, 0), 9);
        due("out of it", x.move(0, 3, 1, 3, 1, 0, 1), 9);
        due("into it", x.move(1, 3, 0, 3, 0, 0, 1), 1);
        due("one above of another good", x.move(0, 3, 2, 3, 2, 1, -1), -9);
        of(5, "-7 ahead of -9");
        due("-7", x.move(0, 3, 2, 3, 2, 0, -1), -7);
        of(5, "a ZONE that has too much by what was CANCELLED");
        StockGrid z = grid(8, 6, 20);
        z.add(0, 0, 0, 3, 0, 5);
        z.begin();
        z.add(0, 0, 0, 3, 0, -5);
        z.zone(0, 0, 0, 3, 0, 1);
        z.cancel();
        due("as much behind as ahead", z.move(0, 0, 0, 0, 0, 1, 0), 5);
        due("less behind", z.move(0, 1, 0, 2, 0, 0, 1), 15);
        due("more behind", z.move(0, 1, 1, 1, 1, 0, -1), -9);
    }

    private static void moveBorders() {
        of(5, "BORDERS by it: of both RECTANGLES, and each above X1 up to X2, so far off");
        StockGrid x = grid(50, 40, 100);
        x.add(0, 5, 5, 9, 9, 1);
        x.add(0, 7, 7, 9, 9, 1);
        due("before", bordersOf(x, 0), "0 5 7 10");
        x.move(0, 5, 5, 10, 9, 20, 10);
        due("above X1, up to X2", bordersOf(x, 0), "0 5 7 10 11 25 27 30 31");
        due("down: that behind Y2 comes by the RECTANGLE", bordersOf(x, 1), "0 5 7 10 15 17 20");
        x.move(0, 26, 15, 29, 16, 20, 0);
        due("X1's own is the RECTANGLE's", bordersOf(x, 0), "0 5 7 10 11 25 26 27 30 31 46 47");
        due("H", bordersOf(x, 1), "0 5 7 10 15 17 20");
        x.move(0, 46, 15, 46, 16, 3, 23);
        due("W is none", bordersOf(x, 0), "0 5 7 10 11 25 26 27 30 31 46 47 49");
        due("H is none", bordersOf(x, 1), "0 5 7 10 15 17 20 38");
        of(5, "-4, -7, -9 (in this order); -2 ahead of them");
        StockGrid y = new StockGrid();
        fillAcross(y, 100, 2, 46);
        due("four more", y.move(0, 44, 0, 45, 0, 20, 0), -4);
        due("none came", y.borders(0, 0), 46);
        due("nothing moved", y.sum(0, 64, 0, 65, 0), 90);
        due("-2 ahead of -4", y.move(0, 44, 0, 45, 0, 55, 0), -2);
        y.zone(0, 45, 0, 99, 0, 55 * 45);
        due("-4 ahead of -9", y.move(0, 43, 0, 44, 0, 22, 0), -4);
        y.zone(0, 45, 0, 99, 0, TOP);
        y.add(1, 45, 0, 99, 0, 20);
        due("-4 ahead of -7", y.move(0, 43, 0, 44, 0, 22, 0), -4);
        due("-7, as no border comes", y.move(0, 44, 0, 44, 0, 1, 0), -7);
        y.add(1, 45, 0, 99, 0, -20);
        y.zone(0, 45, 0, 45, 0, 45);
        due("-9, as no border comes", y.move(0, 44, 0, 44, 0, 1, 0), -9);
        StockGrid z = new StockGrid();
        fillDown(z, 2, 100, 45);
        due("four more down", z.move(0, 0, 43, 0, 44, 0, 20), -4);
        due("three more down", z.move(0, 0, 44, 0, 44, 0, 20), 44);
        due("48 down", z.borders(1, 0), 48);
        due("across as well", bordersOf(z, 0), "0 1");
    }

    private static void level() {
        of(6, "each CELL gets as many, the first ones in ROWS' order one more each, as many as are over");
        StockGrid x = grid(8, 6, 1000);
        x.add(0, 2, 2, 2, 2, 12);
        due("12 by 12: none over", x.level(0, 2, 2, 5, 4), 1);
        due("each", x.bound(0, 2, 2, 5, 4, 1), 1);
        x.add(0, 5, 4, 5, 4, 1);
        due("one over", x.level(0, 2, 2, 5, 4), 1);
        due("the first has it", x.at(0, 2, 2), 2);
        due("the second has none of it", x.at(0, 3, 2), 1);
        x.add(0, 5, 4, 5, 4, 10);
        due("eleven over", x.level(0, 2, 2, 5, 4), 1);
        due("all but the last", x.at(0, 4, 4), 2);
        due("the last", x.at(0, 5, 4), 1);
        x.add(0, 5, 4, 5, 4, -1);
        x.add(0, 5, 3, 5, 3, -2);
        due("a row's end: eight over", x.level(0, 2, 2, 5, 4), 1);
        due("(5, 3)", x.at(0, 5, 3), 2);
        due("(2, 4)", x.at(0, 2, 4), 1);
        due("one cell is as it was", x.level(0, 5, 3, 5, 3), 2);
        x.add(0, 2, 4, 2, 4, 1);
        due("a row's first: nine over", x.level(0, 2, 2, 5, 4), 1);
        due("(2, 4)", x.at(0, 2, 4), 2);
        due("(3, 4)", x.at(0, 3, 4), 1);
        x.add(1, 7, 5, 7, 5, 9);
        due("a column: three over", x.level(1, 7, 0, 7, 5), 1);
        due("(7, 2)", x.at(1, 7, 2), 2);
        due("(7, 3)", x.at(1, 7, 3), 1);
        of(6, "what each CELL has at least: 0");
        StockGrid y = grid(8, 6, 1000);
        due("of none", y.level(0, 0, 0, 7, 5), 0);
        due("it stands", y.count(4), 1);
        due("no border came", bordersOf(y, 0) + bordersOf(y, 1), "00");
        y.add(0, 7, 5, 7, 5, 47);
        due("47 by 48", y.level(0, 0, 0, 7, 5), 0);
        due("the last has none", y.at(0, 7, 5), 0);
        due("the one ahead of it", y.at(0, 6, 5), 1);
        of(6, "of the greatest number");
        StockGrid z = grid(10_000, 10_000, CAP);
        for (int i = 0; i < 30; i++) {
            z.add(0, 0, 0, 9_999, 9_999, BILLION);
        }
        z.add(0, 0, 0, 0, 0, -1);
        due("one less than even", z.level(0, 0, 0, 9_999, 9_999), 30L * BILLION - 1);
        due("the last has it", z.at(0, 9_999, 9_999), 30L * BILLION - 1);
        due("the first", z.at(0, 0, 0), 30L * BILLION);
        due("told", z.act(31, 6), TOP - 1);
    }

    private static void levelOrder() {
        of(6, "-2: the GOOD, RECTANGLE");
        badGoodsAndNone((g, good) -> g.level(good, 0, 0, 1, 1));
        badRects((g, x1, y1, x2, y2) -> g.level(0, x1, y1, x2, y2));
        of(6, "-7 some CELL would have more than CAP");
        StockGrid x = grid(8, 6, 10);
        x.add(0, 0, 0, 0, 0, 9);
        x.add(1, 1, 0, 1, 0, 6);
        due("by another good", x.level(0, 0, 0, 1, 0), 4);
        x.add(0, 0, 0, 0, 0, 2);
        due("5 and 6 is above", x.level(0, 0, 0, 1, 0), -7);
        due("nothing changed", x.at(0, 0, 0), 7);
        StockGrid y = grid(8, 6, 10);
        y.add(0, 1, 0, 1, 0, 9);
        y.add(1, 0, 0, 0, 0, 6);
        due("by the one over", y.level(0, 0, 0, 1, 0), -7);
        due("up to it", y.add(0, 1, 0, 1, 0, -1) + y.level(0, 0, 0, 1, 0), 8 + 4);
        of(6, "-9 some ZONE that has more behind it more than its LIMIT");
        StockGrid z = grid(8, 6, 10);
        z.add(0, 0, 0, 0, 0, 9);
        z.zone(4, 1, 0, 2, 0, 5);
        due("three each", z.level(0, 0, 0, 2, 0), -9);
        z.zone(4, 1, 0, 2, 0, 6);
        due("up to it", z.level(0, 0, 0, 2, 0), 3);
        due("even again: it has no more", z.level(0, 0, 0, 2, 0), 3);
        z.begin();
        z.pick(0, 0, 0, 2, 0, 9);
        z.zone(4, 1, 0, 2, 0, 1);
        z.cancel();
        due("too much by what was CANCELLED, no more behind", z.level(0, 1, 0, 2, 0), 3);
        due("less behind", z.level(0, 0, 0, 7, 0), 1);
        due("more behind", z.level(0, 0, 0, 2, 0) + z.add(0, 0, 0, 0, 0, 6) * 100 + z.level(0, 0, 0, 2, 0) * 10_000,
                1 + 1500 - 90_000);
        of(6, "-7 ahead of -9");
        StockGrid w = grid(8, 6, 10);
        w.add(0, 0, 0, 0, 0, 10);
        w.add(1, 1, 0, 1, 0, 6);
        w.zone(4, 1, 0, 1, 0, 6);
        due("both", w.level(0, 0, 0, 1, 0), -7);
    }

    private static void levelBorders() {
        of(6, "BORDERS by it: its RECTANGLE's, and, if some are over, x and 1, y, y and 1");
        StockGrid x = grid(50, 40, 100);
        x.add(0, 0, 0, 49, 39, 1);
        x.level(0, 10, 20, 19, 29);
        due("none over, across", bordersOf(x, 0), "0 10 20");
        due("none over, down", bordersOf(x, 1), "0 20 30");
        x = grid(50, 40, 2_000);
        x.add(0, 10, 20, 19, 29, 2);
        x.add(0, 10, 20, 19, 21, 2);
        x.level(0, 10, 20, 19, 29);
        due("40 over: x and 1 is X2 and 1", bordersOf(x, 0), "0 10 20");
        due("y, y and 1", bordersOf(x, 1), "0 20 22 23 24 30");
        x.add(0, 10, 20, 19, 20, 2);
        x.level(0, 0, 20, 49, 20);
        due("50 in 50 cells: none over", bordersOf(x, 0), "0 10 20");
        x.add(0, 10, 21, 19, 21, -1);
        x.level(0, 0, 0, 49, 39);
        due("250 over in all: x and 1 is W", bordersOf(x, 0), "0 10 20");
        due("250 over in all: y is 4", bordersOf(x, 1), "0 4 5 20 21 22 23 24 30");
        x.add(0, 49, 39, 49, 39, 1_749);
        due("1,999 over", x.level(0, 0, 0, 49, 39), 0);
        due("H is none", bordersOf(x, 1), "0 4 5 20 21 22 23 24 30 39");
        due("x and 1", bordersOf(x, 0), "0 10 20 49");
        levelBordersOfOne();
        of(6, "-4 there would be more than 48 BORDERS of an axis");
        StockGrid y = new StockGrid();
        fillAcross(y, 100, 4, 47);
        due("its RECTANGLE's two", y.level(0, 60, 0, 69, 0), -4);
        due("its RECTANGLE's one", y.level(0, 60, 0, 99, 0), 46);
        due("48", y.borders(0, 0), 48);
        due("none over", y.level(0, 60, 1, 99, 3), 46);
        y.add(0, 60, 0, 99, 3, -46);
        due("some over: x and 1 is one more", y.level(0, 44, 1, 99, 1), -4);
        due("nothing changed", y.at(0, 99, 1), 0);
        StockGrid z = new StockGrid();
        fillDown(z, 4, 100, 46);
        z.add(1, 0, 60, 3, 60, 1);
        due("48 down", z.borders(1, 0), 48);
        due("none over", z.level(0, 0, 61, 3, 99), 45);
        z.add(0, 0, 61, 0, 99, 1);
        due("some over: y and y and 1 are two more", z.level(0, 0, 61, 3, 99), -4);
        levelOrderOfBorders();
    }

    private static void levelBordersOfOne() {
        StockGrid x = grid(50, 40, 100);
        x.add(0, 0, 0, 49, 39, 1);
        x.add(0, 29, 39, 49, 39, 1);
        x.pick(0, 30, 39, 49, 39, 40);
        due("of one over, ahead of it", bordersOf(x, 0) + ", " + bordersOf(x, 1), "0 29 30 49, 0 39");
        x.level(0, 10, 20, 29, 39);
        due("one over, across", bordersOf(x, 0), "0 10 11 29 30 49");
        due("one over, down", bordersOf(x, 1), "0 20 21 39");
        StockGrid y = grid(50, 40, 100);
        y.add(0, 10, 20, 19, 20, 1);
        y.add(0, 10, 20, 10, 20, 1);
        due("eleven over", y.level(0, 10, 20, 19, 29), 0);
        due("a row's first, across", bordersOf(y, 0), "0 10 11 20");
        due("a row's first, down", bordersOf(y, 1), "0 20 21 22 30");
    }

    private static void levelOrderOfBorders() {
        of(6, "-4, -7, -9 (in this order)");
        StockGrid y = new StockGrid();
        fillDown(y, 4, 100, 46);
        y.add(1, 0, 60, 3, 99, 20);
        y.add(0, 0, 45, 3, 45, 55);
        due("48 down", y.borders(1, 0), 48);
        y.zone(0, 0, 62, 3, 69, 8 * 4 * 65);
        due("-4 ahead of -9", y.level(0, 0, 45, 3, 80), -4);
        due("-9, as none is over", y.level(0, 0, 45, 3, 99), -9);
        y.zone(0, 0, 62, 3, 69, TOP);
        y.add(1, 0, 60, 3, 99, 34);
        due("-4 ahead of -7", y.level(0, 0, 45, 3, 80), -4);
        StockGrid z = grid(4, 100, 100);
        z.add(0, 0, 45, 3, 45, 100);
        z.add(1, 0, 60, 3, 99, 99);
        z.zone(0, 0, 62, 3, 69, 8 * 4 * 99);
        due("-7 ahead of -9", z.level(0, 0, 45, 3, 80), -7);
        z.add(1, 0, 60, 3, 99, -9);
        z.zone(0, 0, 62, 3, 69, 8 * 4 * 90);
        due("-9 alone", z.level(0, 0, 45, 3, 80), -9);
    }

    private static void zone() {
        of(7, "ZONES 0 to 5; -2: the ZONE, RECTANGLE");
        StockGrid x = some();
        due("0", x.zone(0, 0, 0, 7, 5, TOP), 182);
        due("5", x.zone(5, 0, 0, 0, 0, 5), 1);
        for (int zone : new int[] {6, -1, LOW, HIGH}) {
            due("ZONE " + zone, x.zone(zone, 0, 0, 0, 0, 5), -2);
            due("ZONE " + zone + ", ahead of -3", x.zone(zone, 0, 0, 0, 0, -1), -2);
        }
        badRects((g, x1, y1, x2, y2) -> g.zone(0, x1, y1, x2, y2, TOP));
        badRects((g, x1, y1, x2, y2) -> g.zone(0, x1, y1, x2, y2, -1));
        of(7, "LIMIT 0 to 3,000,000,000,000,000,000; -3: LIMIT; -9: there are more in it");
        StockGrid y = grid(8, 6, 100);
        due("0, of an empty one", y.zone(0, 0, 0, 3, 3, 0), 0);
        due("nothing comes in", y.add(0, 3, 3, 3, 3, 1), -9);
        due("greatest", y.zone(0, 0, 0, 3, 3, TOP), 0);
        for (long limit : new long[] {-1, TOP + 1, LEAST, MOST}) {
            due("LIMIT " + limit, y.zone(1, 0, 0, 3, 3, limit), -3);
        }
        y.add(0, 0, 0, 3, 3, 2);
        y.add(2, 3, 3, 4, 4, 1);
        due("as many as are in it, of all GOODS", y.zone(1, 0, 0, 3, 3, 33), 33);
        due("one fewer", y.zone(2, 0, 0, 3, 3, 32), -9);
        due("none came", y.zoneAt(2, 0), -1);
        due("the old one stays", y.zone(1, 0, 0, 4, 4, 35), -9);
        due("its X2", y.zoneAt(1, 2), 3);
        due("its LIMIT", y.zoneAt(1, 4), 33);
        due("-3 ahead of -9", y.zone(1, 0, 0, 4, 4, -1), -3);
        of(7, "it takes the place of the one that was");
        due("smaller", y.zone(1, 4, 4, 4, 4, 1), 1);
        due("what was in it is free", y.add(1, 0, 0, 0, 0, 9), 9);
        of(7, "no ACT; it stays, whatever is CANCELLED");
        long acts = y.count(4);
        y.begin();
        y.zone(3, 7, 5, 7, 5, 7);
        y.zone(1, 0, 0, 0, 0, 11);
        due("none was CANCELLED", y.cancel(), 0);
        due("STANDING", y.count(4), acts);
        due("it stays", y.zoneAt(3, 4), 7);
        due("nor is the old one back", y.zoneAt(1, 4), 11);
        due("no border by it", bordersOf(y, 0), "0 1 3 4 5");
        of(7, "more in all GOODS together than any LIMIT");
        StockGrid z = grid(10_000, 10_000, CAP);
        for (int i = 0; i < 30; i++) {
            z.add(0, 0, 0, 9_999, 9_999, BILLION);
        }
        due("up to the greatest", z.zone(0, 0, 0, 9_999, 9_999, TOP), TOP);
        due("one more of another good", z.add(1, 0, 0, 0, 0, 1), -9);
        z.world(10_000, 10_000, CAP);
        for (int i = 0; i < 60; i++) {
            z.add(i % 2, 0, 0, 9_999, 9_999, BILLION);
        }
        due("6e18", z.zone(0, 0, 0, 9_999, 9_999, TOP), -9);
    }

    private static void zoneAt() {
        of(8, "what 0 to 5; -2: the ZONE, what");
        StockGrid x = grid(8, 6, 100);
        x.zone(5, 1, 2, 6, 4, 77);
        long[] want = {1, 2, 6, 4, 77, 77};
        for (int what = 0; what < 6; what++) {
            due("what " + what, x.zoneAt(5, what), want[what]);
        }
        for (int bad : new int[] {6, -1, LOW, HIGH}) {
            due("what " + bad, x.zoneAt(5, bad), -2);
            due("ZONE " + bad, x.zoneAt(bad, 0), -2);
        }
        of(8, "NONE: there is none (-2 ahead of it)");
        for (int what = 0; what < 6; what++) {
            due("what " + what, x.zoneAt(4, what), -1);
        }
        due("what 6", x.zoneAt(4, 6), -2);
        due("what -1", x.zoneAt(4, -1), -2);
        of(8, "how many UNITS more it could take (0, if it has its LIMIT or, by what was CANCELLED, more)");
        x.add(0, 0, 0, 7, 5, 4);
        due("five", x.zoneAt(5, 5), 5);
        x.add(1, 3, 3, 3, 3, 4);
        due("one", x.zoneAt(5, 5), 1);
        x.add(2, 3, 3, 3, 3, 1);
        due("its LIMIT", x.zoneAt(5, 5), 0);
        x.begin();
        x.add(0, 0, 0, 7, 5, -4);
        due("less in it", x.zoneAt(5, 5), 72);
        x.zone(5, 1, 2, 6, 4, 6);
        x.cancel();
        due("more", x.zoneAt(5, 5), 0);
        due("its LIMIT all the same", x.zoneAt(5, 4), 6);
        due("its UNITS", x.sum(-1, 1, 2, 6, 4), 77);
        x.add(0, 1, 2, 6, 4, -4);
        due("less again", x.zoneAt(5, 5), 1);
    }

    private static void begin() {
        of(9, "8 at most are open, one within another; -4: 8 are");
        StockGrid x = grid(8, 6, 100);
        for (int i = 1; i <= 8; i++) {
            due("begin " + i, x.begin(), i);
            x.add(0, 0, 0, 0, 0, i);
        }
        due("a ninth", x.begin(), -4);
        due("8 stay open", x.count(3), 8);
        for (int i = 0; i < 8; i++) {
            due("as " + i + " was begun", x.before(i, 0, 0, 0, 7, 5), i * (i + 1) / 2);
        }
        due("commit", x.commit(), 7);
        due("one more", x.begin(), 8);
        due("as it was begun", x.before(7, 0, 0, 0, 7, 5), 36);
        due("cancel", x.cancel(), 0);
        due("cancel", x.cancel(), 2);
        due("one more", x.begin(), 7);
        due("as it was begun", x.before(6, 0, 0, 0, 7, 5), 21);
        of(9, "by THE TEXT likewise");
        due("one of two", tellText(x, "begin;begin;"), 1);
        due("code", x.fault(2), -4);
    }

    private static void commit() {
        of(10, "-8 nothing is open");
        StockGrid x = grid(8, 6, 100);
        due("at first", x.commit(), -8);
        x.begin();
        due("the only one", x.commit(), 0);
        due("once more", x.commit(), -8);
        of(10, "what was done in it belongs to that around it");
        x.add(0, 0, 0, 0, 0, 1);
        x.begin();
        x.add(0, 1, 1, 1, 1, 2);
        x.begin();
        x.add(0, 2, 2, 2, 2, 3);
        x.begin();
        x.add(0, 3, 3, 3, 3, 4);
        due("two are open", x.commit(), 2);
        due("the innermost has both", x.cancel(), 2);
        due("what is around it stands", x.sum(0, 0, 0, 7, 5), 3);
        x.begin();
        due("of an empty one", x.commit(), 1);
        due("the outermost has its own alone", x.cancel(), 1);
        due("what was ahead of it stands", x.sum(0, 0, 0, 7, 5), 1);
        of(10, "for good, if there is none");
        x.begin();
        x.add(0, 4, 4, 4, 4, 5);
        due("commit", x.commit(), 0);
        due("no cancel", x.cancel(), -8);
        x.begin();
        due("nor by a later one", x.cancel(), 0);
        due("it stands", x.sum(0, 0, 0, 7, 5), 6);
        due("STANDING", x.count(4), 2);
    }

    private static void cancel() {
        of(11, "-8 nothing is open");
        StockGrid x = grid(20, 20, 100);
        due("at first", x.cancel(), -8);
        x.begin();
        due("of nothing", x.cancel(), 0);
        due("once more", x.cancel(), -8);
        of(11, "all that was done in the innermost one is as ahead of it");
        x.add(0, 2, 2, 9, 9, 3);
        x.add(1, 0, 0, 19, 19, 1);
        x.begin();
        x.add(2, 5, 5, 6, 6, 1);
        x.begin();
        x.add(0, 4, 4, 15, 15, 2);
        x.pick(0, 0, 0, 19, 19, 50);
        x.move(1, 1, 1, 4, 4, 10, 10);
        x.level(0, 0, 0, 10, 10);
        x.add(0, 0, 0, 0, 0, -99);
        due("four, none refused", x.cancel(), 4);
        due("good 0", x.sum(0, 0, 0, 19, 19), 192);
        due("good 0, each", x.bound(0, 2, 2, 9, 9, 0) * 10 + x.bound(0, 2, 2, 9, 9, 1), 33);
        due("good 1, each", x.bound(1, 0, 0, 19, 19, 0) * 10 + x.bound(1, 0, 0, 19, 19, 1), 11);
        due("good 2, what is around it stands", x.sum(2, 0, 0, 19, 19), 4);
        due("STANDING", x.count(4), 3);
        of(11, "BORDERS stay, whatever is cancelled, and so do those that came LATE");
        due("across", x.borders(0, 0) > 5 ? 1 : 0, 1);
        long late = x.borders(0, 1);
        due("the outer one", x.cancel(), 1);
        due("late", x.borders(0, 1), late);
        StockGrid y = new StockGrid();
        fillAcross(y, 100, 2, 46);
        y.begin();
        y.add(1, 60, 0, 69, 0, 1);
        due("cancel", y.cancel(), 1);
        due("48 all the same", y.borders(0, 0), 48);
        due("no room", y.add(1, 61, 0, 69, 0, 1), -4);
        due("those that stayed", y.add(1, 60, 0, 69, 0, 1), 10);
        of(11, "zones and what is read stay; one that is open is one less");
        y.begin();
        y.begin();
        y.cancel();
        due("open", y.count(3), 1);
    }

    private static void cancelForgotten() {
        of(11, "how many were CANCELLED by it (those that are forgotten, too)");
        StockGrid x = grid(2, 2, 1000);
        x.begin();
        for (int i = 1; i <= 41; i++) {
            x.add(0, 0, 0, 0, 0, 1);
        }
        due("40 are told", x.count(4), 40);
        due("41", x.cancel(), 41);
        due("none is told", x.count(4), 0);
        due("none stands", x.sum(0, 0, 0, 1, 1), 0);
        of(11, "the eldest is forgotten for good, though what it did stands");
        x.add(0, 0, 0, 0, 0, 7);
        x.add(0, 0, 0, 0, 0, 8);
        x.begin();
        for (int i = 1; i <= 39; i++) {
            x.add(1, 0, 0, 0, 0, 1);
        }
        due("the second is the eldest", x.act(0, 6), 8);
        due("39", x.cancel(), 39);
        due("one is told", x.count(4), 1);
        due("that", x.act(0, 6), 8);
        due("what both did stands", x.at(0, 0, 0), 15);
        of(11, "an inner one that was cancelled is not told again by that around it");
        x.begin();
        x.add(1, 0, 0, 0, 0, 1);
        x.begin();
        x.add(1, 0, 0, 0, 0, 1);
        x.add(1, 0, 0, 0, 0, 1);
        due("inner", x.cancel(), 2);
        due("outer", x.cancel(), 1);
    }

    private static void feed() {
        of(12, "Twenty bytes come behind those on THE TAPE: how many it has; -4: more than 500");
        StockGrid x = new StockGrid();
        for (int i = 1; i <= 25; i++) {
            due("feed " + i, x.feed(0x20202020, 0x20202020, 0x20202020, 0x20202020, 0x20202020), 20 * i);
        }
        due("520", x.feed(0, 0, 0, 0, 0), -4);
        due("500 stay", x.count(5), 500);
        due("as they were", x.run(500), 0);
        due("room again", x.feed(0, 0, 0, 0, 0), 20);
        x.run(20);
        of(12, "the highest of each int first");
        x.feed(0x62656769, 0x6E3B636F, 0x6D6D6974, 0x3B626567, 0x696E3B20);
        due("begin;commit;begin; ", x.run(20), 3);
        due("one is open", x.count(3), 1);
        x.feed(0x20202020, 0x20202020, 0x20202020, 0x20202020, 0x20202080);
        due("a byte above 127", x.run(20), -31);
        due("its place", x.fault(1), 19);
        x.feed(0x20202020, 0x20202020, 0x20202020, 0x20202020, 0x20202020);
        x.feed(0x62656769, 0x6E3B2020, 0x20202020, 0x20202020, 0x20202020);
        due("behind those", x.run(26), 1);
        x.feed(LOW, HIGH, -1, 0, 1);
        due("no blank is put", x.run(20), -31);
        due("at the first", x.fault(1), 0);
    }

    private static void run() {
        of(13, "-3: n is below 0, above what there is (THE TAPE stays)");
        StockGrid x = grid(8, 6, 100);
        due("1 of none", x.run(1), -3);
        due("0 of none", x.run(0), 0);
        tape(x, "begin; begin; begin;");
        due("21 of 20", x.run(21), -3);
        due("-1", x.run(-1), -3);
        due("least", x.run(LOW), -3);
        due("greatest", x.run(HIGH), -3);
        due("the tape stays", x.count(5), 20);
        due("20 of 20", x.run(20), 3);
        of(13, "The first n bytes of THE TAPE (which is empty then)");
        tape(x, "cancel; cancel; begin; begin; begin;");
        due("the first 15", x.run(15), 2);
        due("the tape is empty", x.count(5), 0);
        due("open", x.count(3), 1);
        tape(x, "cancel;");
        due("none of them", x.run(0), 0);
        due("the tape is empty", x.count(5), 0);
        due("open", x.count(3), 1);
        tape(x, "cancel;");
        due("the seventh is not of it", x.run(6), -31);
        due("the end", x.fault(1), 6);
        of(13, "a FAULT: none is done; -30 less the FAULT; THE TAPE is empty then");
        due("1 behind what is sound", tellText(x, "cancel; cancel; add 0 0 0 0 0 1; ?"), -31);
        due("none was done", x.count(3), 1);
        due("2", tellText(x, "cancel; add 3 0 0 0 0 1;"), -32);
        due("none was done", x.count(3), 1);
        due("3", tellText(x, "cancel; " + "begin;".repeat(30)), -33);
        due("none was done", x.count(3), 1);
        due("the tape is empty", x.count(5), 0);
        of(13, "500 bytes at most");
        due("all of it", tellText(x, " ".repeat(493) + "cancel;"), 1);
        due("done", x.count(3), 0);
    }

    private static void runDoes() {
        of(13, "done one by one, as if by hand, till one is refused: how many were done");
        StockGrid x = grid(8, 6, 10);
        due("all of two", tellText(x, "add 0 0 0 7 5 2; pick 0 1 1 7 5 3;"), 2);
        due("done", x.sum(0, 0, 0, 7, 5), 93);
        due("they stand", x.act(1, 6), 3);
        due("the first is refused", tellText(x, "add 0 0 0 7 5 9; begin;"), 0);
        due("none behind it", x.count(3), 0);
        due("the second is refused", tellText(x, "begin; pick 0 0 0 7 5 94; add 0 0 0 0 0 1;"), 1);
        due("what was done stands", x.count(3), 1);
        due("what is behind it was not done", x.sum(0, 0, 0, 7, 5), 93);
        due("the last is refused", tellText(x, "cancel; cancel;"), 1);
        due("by a code", x.fault(2), -8);
        due("each number in its place", tellText(x, "add 1 5 2 6 4 3; pick 1 6 3 6 4 4; add 1 5 3 5 4 - 2;"), 3);
        due("good 1", x.sum(1, 0, 0, 7, 5), 18 - 4 - 4);
        due("(6, 4) keeps two", x.at(1, 6, 4), 2);
        due("(5, 3) has one", x.at(1, 5, 3), 1);
        due("(5, 2) has three", x.at(1, 5, 2), 3);
        due("what is less than nothing", tellText(x, "add 0 0 0 7 5-2;"), 0);
        due("by a code", x.fault(2), -5);
        of(13, "30 ACTS that have numbers");
        due("all", tellText(x, "add 2 7 5 7 5 1;".repeat(8) + "pick 2 7 5 7 5 1;".repeat(7)
                + "add 2 6 5 6 5 1;".repeat(8) + "pick 2 6 5 6 5 1;".repeat(6) + "add 0 6 1 6 1-2;"), 30);
        due("good 2", x.at(2, 7, 5) * 100 + x.at(2, 6, 5), 102);
        due("the last of them", x.at(0, 6, 1), 0);
        of(13, "Whether a RECTANGLE is in THE GRID is asked as it is done");
        due("X2 is W", tellText(x, "begin; add 0 0 0 8 5 1; begin;"), 1);
        due("by a code", x.fault(2), -2);
        due("X1 above X2", tellText(x, "begin; pick 0 3 0 2 5 1;"), 1);
        due("by a code", x.fault(2), -2);
        due("9,999", tellText(x, "add 0 9999 9999 9999 9999 1;"), 0);
        due("by a code", x.fault(2), -2);
    }

    private static void fault() {
        of(14, "NONE for others, and for place ahead of any");
        StockGrid x = new StockGrid();
        due("fault ahead of any", x.fault(0), 0);
        due("place ahead of any", x.fault(1), -1);
        due("code ahead of any", x.fault(2), 0);
        for (int what : new int[] {3, -1, LOW, HIGH}) {
            due("what " + what, x.fault(what), -1);
        }
        of(14, "Of the latest run() that emptied THE TAPE (be it of no byte)");
        tellText(x, "   ?");
        due("fault", x.fault(0), 1);
        due("place", x.fault(1), 3);
        tape(x, "begin;");
        x.run(21);
        x.run(-1);
        due("a refused one is none: fault", x.fault(0), 1);
        due("a refused one is none: place", x.fault(1), 3);
        x.run(0);
        due("of no byte: fault", x.fault(0), 0);
        due("of no byte: place", x.fault(1), -1);
        tellText(x, "commit;");
        due("code", x.fault(2), -8);
        due("no fault", x.fault(0), 0);
        due("no place", x.fault(1), -1);
        x.run(2);
        due("a refused one is none: code", x.fault(2), -8);
        tellText(x, "commit");
        due("a FAULT: no ACT was refused", x.fault(2), 0);
        due("a FAULT at the end", x.fault(1), 6);
        tellText(x, "commit;");
        x.run(0);
        due("of no byte: code", x.fault(2), 0);
        tellText(x, "commit;");
        tellText(x, "begin; commit;");
        due("none was refused", x.fault(2), 0);
        tellText(x, "commit; cancel; add 0 1 1 1 1 1;");
        due("the first one alone", x.fault(2), -8);
    }

    private static void faulty(String text, int what, int place) {
        StockGrid x = grid(8, 6, 100);
        due("'" + text + "'", tellText(x, text), -30 - what);
        due("'" + text + "' fault(0)", x.fault(0), what);
        due("'" + text + "' fault(1)", x.fault(1), place);
        due("'" + text + "' was not done", x.count(3) + x.count(4), 0);
    }

    private static void sound(String text, int acts, int code) {
        StockGrid x = grid(8, 6, 100);
        due("'" + text + "'", tellText(x, text), acts);
        due("'" + text + "' fault(0)", x.fault(0), 0);
        due("'" + text + "' fault(1)", x.fault(1), -1);
        due("'" + text + "' fault(2)", x.fault(2), code);
    }

    private static void textWords() {
        of(14, "Words (a to z, as long as they go on)");
        for (String word : new String[] {"a", "z", "ad", "adds", "pic", "picks", "begi", "begins", "commi", "commits",
                "cance", "cancels", "move", "level", "zone", "world", "Begin", "bEGIN", "addpick", "cancelcancel", "odd", "kick", "vegin", "vommit", "dancel", "addz", "beginz",
                "beginning", "zadd", "acd", "pink", "beginadd"}) {
            faulty("begin; " + word + " 0 0 0 0 0 1;", 1, 7);
        }
        faulty("begin begin;", 1, 6);
        faulty("be gin;", 1, 0);
        of(14, "other bytes one by one; what can't stand there (at it)");
        for (String other : new String[] {";", "-", ",", "`", "{", "/", ":", "\t", "\n", "\0", "\u007f", "\u0080",
                "\u00a0", "\u00ff", "A", "7"}) {
            faulty("begin;" + other, 1, 6);
            faulty("begin" + other + (other.equals(";") ? ";" : ""), 1, other.equals(";") ? 6 : 5);
        }
        faulty("add 0 0 0 0 0 - - 1;", 1, 16);
        faulty("add - 0 0 0 0 0 1;", 1, 4);
        faulty("add 0 0 0 0 - 0 1;", 1, 12);
        faulty("pick 0 0 0 0 0 - 1;", 1, 15);
        faulty("add 0 0 0 0 0 1 1;", 1, 16);
        faulty("add 0 0 0 0 0;", 1, 13);
        faulty("pick 0 0 0 0 0;", 1, 14);
        faulty("begin 0;", 1, 6);
        faulty("add 0 0 0 0 0 x;", 1, 14);
        of(14, "the end: how many bytes there are");
        for (String text : new String[] {"begin", "begin  ", "add", "add 0", "add 0 0 0 0 0 ", "add 0 0 0 0 0 -",
                "add 0 0 0 0 0 1", "pick 0 0 0 0 0 1 ", "begin; cancel"}) {
            faulty(text, 1, text.length());
        }
        of(14, "blanks (32) may stand between all, one at least between words, between numbers");
        sound("", 0, 0);
        sound("   ", 0, 0);
        sound("  begin  ;  commit  ;  ", 2, 0);
        sound("begin;add 0 0 0 0 0 5;add 0 0 0 0 0-5;cancel;", 4, 0);
        sound("add  0  0  0  0  0  -  5  ;", 0, -5);
        sound("add0 0 0 0 0 5;pick0 0 0 0 0 5;", 2, 0);
        faulty("add 00000;", 1, 9);
    }

    private static void textNumbers() {
        of(14, "2 a number out of its bounds (G 0 to 2; others 0 to 9,999)");
        sound("add 2 0 0 0 0 1;", 1, 0);
        faulty("add 3 0 0 0 0 1;", 2, 4);
        faulty("pick 3 0 0 0 0 1;", 2, 5);
        for (int i = 0; i < 4; i++) {
            String ahead = "add 0 " + "0 ".repeat(i);
            sound(ahead + "9999 " + "0 ".repeat(3 - i) + "1;", 0, -2);
            faulty(ahead + "10000 " + "0 ".repeat(3 - i) + "1;", 2, ahead.length());
        }
        of(14, "2 a number out of its bounds (V 1 to 1,000,000,000)");
        sound("add 0 0 0 0 0 1;", 1, 0);
        sound("add 0 0 0 0 0 1000000000;", 0, -7);
        sound("add 0 0 0 0 0 -1000000000;", 0, -5);
        faulty("add 0 0 0 0 0 1000000001;", 2, 14);
        faulty("add 0 0 0 0 0 -1000000001;", 2, 15);
        faulty("add 0 0 0 0 0 0;", 2, 14);
        faulty("add 0 0 0 0 0 - 0;", 2, 16);
        faulty("add 0 0 0 0 0 4294967297;", 2, 14);
        of(14, "2 a number out of its bounds (N 1 to 3,000,000,000,000,000,000)");
        sound("add 0 0 0 0 0 1; pick 0 0 0 0 0 1;", 2, 0);
        sound("pick 0 0 0 0 0 3000000000000000000;", 0, -5);
        faulty("pick 0 0 0 0 0 3000000000000000001;", 2, 15);
        faulty("pick 0 0 0 0 0 0;", 2, 15);
        faulty("pick 0 0 0 0 0 9223372036854775807;", 2, 15);
        faulty("pick 0 0 0 0 0 9223372036854775808;", 2, 15);
        faulty("pick 0 0 0 0 0 9999999999999999999;", 2, 15);
        of(14, "2 or of more than 19 digits (at it)");
        sound("add 0000000000000000002 0 0 0 0 0000000000000000007;", 1, 0);
        faulty("add 00000000000000000002 0 0 0 0 1;", 2, 4);
        faulty("add 0 0 0 0 0 00000000000000000001;", 2, 14);
        faulty("pick 0 0 0 0 0 00000000000000000001;", 2, 15);
        faulty("pick 0 0 0 0 0 18446744073709551617;", 2, 15);
        faulty("pick 0 0 0 0 0 " + "9".repeat(400) + ";", 2, 15);
        of(14, "the first along THE TEXT (of one place the least)");
        faulty("add 3 0 0 0 0 0 ?", 2, 4);
        faulty("add 0 0 0 0 0 0 ?", 2, 14);
        faulty("add ? 0 0 0 0 0;", 1, 4);
        faulty("begin 00000000000000000001;", 1, 6);
        faulty("99999", 1, 0);
    }

    private static void textActs() {
        of(14, "3 a 31st ACT (at its word)");
        String thirty = "begin;cancel;".repeat(15);
        sound(thirty, 30, 0);
        sound(thirty + "  ", 30, 0);
        for (String word : new String[] {"add", "pick", "begin", "commit", "cancel"}) {
            faulty(thirty + " " + word, 3, 196);
        }
        faulty(thirty + "add 9 9 9 9 9 0;", 3, 195);
        faulty(thirty + "begin;begin;", 3, 195);
        of(14, "of one place the least");
        faulty(thirty + "adds", 1, 195);
        faulty(thirty + ";", 1, 195);
        faulty(thirty + " 1", 1, 196);
        of(14, "the first along THE TEXT");
        faulty("?" + thirty + "begin;", 1, 0);
        faulty(thirty.substring(0, 194) + "?", 1, 194);
        faulty("add 3 0 0 0 0 1;" + thirty, 2, 4);
    }

    private static void sum() {
        of(15, "UNITS of a GOOD (NONE: of all) in a RECTANGLE. -2");
        StockGrid x = grid(8, 6, 100);
        x.add(0, 2, 2, 4, 4, 3);
        x.add(1, 4, 4, 7, 5, 5);
        x.add(2, 0, 0, 0, 0, 9);
        due("its last cell", x.sum(0, 4, 4, 4, 4), 3);
        due("its first cell", x.sum(0, 2, 2, 2, 2), 3);
        due("one behind it", x.sum(0, 5, 2, 5, 4), 0);
        due("one ahead of it", x.sum(0, 1, 2, 1, 4), 0);
        due("one below it", x.sum(0, 2, 5, 4, 5), 0);
        due("one above it", x.sum(0, 2, 1, 4, 1), 0);
        due("of all in a cell", x.sum(-1, 4, 4, 4, 4), 8);
        due("of all", x.sum(-1, 0, 0, 7, 5), 27 + 40 + 9);
        badGoods((g, good) -> g.sum(good, 0, 0, 1, 1));
        badRects((g, x1, y1, x2, y2) -> g.sum(0, x1, y1, x2, y2));
        badRects((g, x1, y1, x2, y2) -> g.sum(-1, x1, y1, x2, y2));
        of(15, "of all three the most that there can be");
        StockGrid y = grid(10_000, 10_000, CAP);
        for (int i = 0; i < 90; i++) {
            y.add(i % 3, 0, 0, 9_999, 9_999, BILLION);
        }
        due("9e18", y.sum(-1, 0, 0, 9_999, 9_999), 3 * TOP);
        due("3e18", y.sum(2, 0, 0, 9_999, 9_999), TOP);
        due("but the first cell", y.sum(-1, 0, 1, 9_999, 9_999) + y.sum(-1, 1, 0, 9_999, 0), 3 * TOP - 90L * BILLION);
    }

    private static void at() {
        of(16, "UNITS of a GOOD (NONE: of all) in a CELL. -2");
        StockGrid x = some();
        due("first", x.at(-1, 0, 0), 1);
        due("last", x.at(-1, 7, 5), 1);
        due("of all", x.at(-1, 3, 3), 13);
        due("of one", x.at(1, 3, 3), 5);
        int[][] cells = {{8, 0}, {0, 6}, {-1, 0}, {0, -1}, {LOW, 0}, {0, LOW}, {HIGH, 0}, {0, HIGH}, {8, 6}};
        for (int[] cell : cells) {
            due("CELL " + Arrays.toString(cell), x.at(0, cell[0], cell[1]), -2);
            due("CELL " + Arrays.toString(cell) + " of all", x.at(-1, cell[0], cell[1]), -2);
        }
        badGoods((g, good) -> g.at(good, 0, 0));
    }

    private static void bound() {
        of(17, "The least (what 0), the most (1) of a GOOD (NONE: of all together). -2");
        StockGrid x = grid(8, 6, 100);
        due("of none", x.bound(-1, 0, 0, 7, 5, 0) + x.bound(-1, 0, 0, 7, 5, 1), 0);
        x.add(0, 0, 0, 7, 5, 4);
        x.add(0, 7, 5, 7, 5, -3);
        x.add(1, 0, 0, 0, 0, 6);
        due("least, at the last cell", x.bound(0, 0, 0, 7, 5, 0), 1);
        due("least without it", x.bound(0, 0, 0, 7, 4, 0), 4);
        due("most", x.bound(0, 0, 0, 7, 5, 1), 4);
        due("most of the last cell", x.bound(0, 7, 5, 7, 5, 1), 1);
        due("of all together, least", x.bound(-1, 0, 0, 7, 5, 0), 1);
        due("of all together, most", x.bound(-1, 0, 0, 7, 5, 1), 10);
        due("of all together, most without the first", x.bound(-1, 1, 0, 7, 5, 1), 4);
        due("the most of each is not that of all", x.add(1, 7, 5, 7, 5, 8) + x.bound(-1, 0, 0, 7, 5, 1), 14 + 10);
        badWhats((g, what) -> g.bound(0, 0, 0, 7, 5, what), BAD_PAIR);
        badGoods((g, good) -> g.bound(good, 0, 0, 1, 1, 0));
        badRects((g, x1, y1, x2, y2) -> g.bound(-1, x1, y1, x2, y2, 1));
        StockGrid y = grid(1, 1, CAP);
        y.add(0, 0, 0, 0, 0, BILLION);
        y.add(1, 0, 0, 0, 0, BILLION);
        y.add(2, 0, 0, 0, 0, BILLION);
        due("above an int", y.bound(-1, 0, 0, 0, 0, 0), 3L * BILLION);
    }

    private static void empty() {
        of(18, "How many CELLS of a RECTANGLE have nothing of any GOOD. -2");
        StockGrid x = grid(10_000, 10_000, 100);
        due("all", x.empty(0, 0, 9_999, 9_999), 100_000_000);
        x.add(0, 0, 0, 9_999, 9_998, 1);
        x.add(1, 0, 9_999, 9_998, 9_999, 1);
        due("one", x.empty(0, 0, 9_999, 9_999), 1);
        x.add(2, 9_999, 9_999, 9_999, 9_999, 1);
        due("none", x.empty(0, 0, 9_999, 9_999), 0);
        x.pick(0, 0, 0, 9_999, 9_999, 2);
        due("two were emptied", x.empty(0, 0, 9_999, 9_999), 2);
        due("one of them", x.empty(1, 0, 1, 0), 1);
        x.add(1, 0, 0, 0, 0, 1);
        due("one has another good", x.empty(0, 0, 9_999, 9_999), 1);
        badRects((g, x1, y1, x2, y2) -> g.empty(x1, y1, x2, y2));
    }

    private static void share() {
        of(19, "in lowest terms (0 by 1 without any). -2");
        StockGrid x = grid(8, 6, 100);
        due("without any in all CELLS", x.share(0, 0, 0, 7, 5, 0), 0);
        due("by", x.share(0, 0, 0, 7, 5, 1), 1);
        x.add(0, 0, 0, 3, 2, 6);
        due("without any in the RECTANGLE", x.share(0, 4, 0, 7, 5, 0), 0);
        due("by", x.share(0, 4, 0, 7, 5, 1), 1);
        due("all", x.share(0, 0, 0, 7, 5, 0), 1);
        due("by", x.share(0, 0, 0, 7, 5, 1), 1);
        due("30 of 72", x.share(0, 0, 0, 2, 0, 0) + x.share(0, 0, 0, 2, 0, 1), 1 + 4);
        x.add(0, 0, 0, 0, 0, 1);
        due("7 of 73, upper", x.share(0, 0, 0, 0, 0, 0), 7);
        due("7 of 73, lower", x.share(0, 0, 0, 0, 0, 1), 73);
        due("of another good", x.share(1, 0, 0, 7, 5, 1), 1);
        badWhats((g, what) -> g.share(2, 0, 0, 7, 5, what), BAD_PAIR);
        badGoodsAndNone((g, good) -> g.share(good, 0, 0, 1, 1, 0));
        badRects((g, x1, y1, x2, y2) -> g.share(0, x1, y1, x2, y2, 1));
        of(19, "of the greatest numbers");
        StockGrid y = grid(10_000, 10_000, CAP);
        for (int i = 0; i < 30; i++) {
            y.add(0, 0, 0, 9_999, 9_999, BILLION);
        }
        due("one cell", y.share(0, 0, 0, 0, 0, 1), 100_000_000);
        y.add(0, 0, 0, 0, 0, -1);
        due("upper", y.share(0, 0, 0, 0, 0, 0), 30L * BILLION - 1);
        due("lower", y.share(0, 0, 0, 0, 0, 1), TOP - 1);
    }

    private static void atLeast() {
        of(20, "t UNITS or more. -2; -3: t is below 0");
        StockGrid x = grid(8, 6, 100);
        x.add(0, 0, 0, 3, 3, 5);
        x.add(1, 3, 3, 4, 4, 2);
        due("0: each CELL", x.atLeast(0, 0, 0, 7, 5, 0), 48);
        due("1", x.atLeast(0, 0, 0, 7, 5, 1), 16);
        due("as many as it has", x.atLeast(0, 0, 0, 7, 5, 5), 16);
        due("one more", x.atLeast(0, 0, 0, 7, 5, 6), 0);
        due("all together", x.atLeast(-1, 0, 0, 7, 5, 7), 1);
        due("all together, one more", x.atLeast(-1, 0, 0, 7, 5, 8), 0);
        due("all together, 1", x.atLeast(-1, 0, 0, 7, 5, 1), 19);
        due("greatest", x.atLeast(-1, 0, 0, 7, 5, MOST), 0);
        due("2 to the 32nd", x.atLeast(0, 0, 0, 7, 5, 1L << 32), 0);
        due("-1", x.atLeast(0, 0, 0, 7, 5, -1), -3);
        due("least", x.atLeast(-1, 0, 0, 7, 5, LEAST), -3);
        badGoods((g, good) -> g.atLeast(good, 0, 0, 1, 1, 1));
        badGoods((g, good) -> g.atLeast(good, 0, 0, 1, 1, -1));
        badRects((g, x1, y1, x2, y2) -> g.atLeast(0, x1, y1, x2, y2, 1));
        badRects((g, x1, y1, x2, y2) -> g.atLeast(-1, x1, y1, x2, y2, -1));
    }

    private static void value() {
        of(21, "The k-th least (from 1 on). NONE: there are not so many CELLS; -2; -3: k is below 1");
        StockGrid x = grid(8, 6, 100);
        due("of none, last", x.value(0, 0, 0, 7, 5, 48), 0);
        x.add(0, 0, 0, 3, 3, 5);
        x.add(0, 3, 3, 3, 3, 90);
        x.add(1, 3, 3, 7, 3, 2);
        due("first", x.value(0, 0, 0, 7, 5, 1), 0);
        due("the last that has none", x.value(0, 0, 0, 7, 5, 32), 0);
        due("the first that has some", x.value(0, 0, 0, 7, 5, 33), 5);
        due("the last but one", x.value(0, 0, 0, 7, 5, 47), 5);
        due("the last", x.value(0, 0, 0, 7, 5, 48), 95);
        due("one more", x.value(0, 0, 0, 7, 5, 49), -1);
        due("greatest", x.value(0, 0, 0, 7, 5, MOST), -1);
        due("2 to the 32nd and 1", x.value(0, 0, 0, 7, 5, (1L << 32) + 1), -1);
        due("of all together, the last", x.value(-1, 0, 0, 7, 5, 48), 97);
        due("of all together, the 29th", x.value(-1, 0, 0, 7, 5, 29), 2);
        due("of all together, the 28th", x.value(-1, 0, 0, 7, 5, 28), 0);
        due("a cell", x.value(0, 3, 3, 3, 3, 1), 95);
        due("a cell, second", x.value(0, 3, 3, 3, 3, 2), -1);
        due("0", x.value(0, 0, 0, 7, 5, 0), -3);
        due("least", x.value(-1, 0, 0, 7, 5, LEAST), -3);
        badGoods((g, good) -> g.value(good, 0, 0, 1, 1, 1));
        badGoods((g, good) -> g.value(good, 0, 0, 1, 1, 0));
        badRects((g, x1, y1, x2, y2) -> g.value(0, x1, y1, x2, y2, MOST));
        badRects((g, x1, y1, x2, y2) -> g.value(0, x1, y1, x2, y2, 0));
    }

    private static String holeOf(StockGrid x) {
        return x.hole(0) + " " + x.hole(1) + " " + x.hole(2) + " " + x.hole(3) + " " + x.hole(4);
    }

    private static void hole() {
        of(22, "the most CELLS that have nothing of any GOOD. NONE: no CELL is so; -2: what");
        StockGrid x = grid(10_000, 10_000, 100);
        due("all", holeOf(x), "0 0 9999 9999 100000000");
        x.add(0, 0, 0, 9_999, 9_999, 1);
        due("none", holeOf(x), "-1 -1 -1 -1 -1");
        for (int what : new int[] {5, -1, LOW, HIGH}) {
            due("what " + what + ", ahead of NONE", x.hole(what), -2);
        }
        x.pick(0, 9_999, 9_999, 9_999, 9_999, 1);
        due("the last cell", holeOf(x), "9999 9999 9999 9999 1");
        due("what 5", x.hole(5), -2);
        x.add(2, 9_999, 9_999, 9_999, 9_999, 1);
        due("another good there", holeOf(x), "-1 -1 -1 -1 -1");
        of(22, "of like ones the first by Y1, then X1, then Y2");
        due("Y1 ahead of X1", holeOf(holes(new int[][] {{4, 0, 5, 0}, {0, 2, 1, 2}})), "4 0 5 0 2");
        due("X1", holeOf(holes(new int[][] {{4, 0, 5, 0}, {0, 0, 1, 0}})), "0 0 1 0 2");
        due("Y1 ahead of Y2", holeOf(holes(new int[][] {{5, 1, 5, 4}, {0, 2, 3, 2}})), "5 1 5 4 4");
        due("X1 ahead of Y2", holeOf(holes(new int[][] {{3, 1, 6, 1}, {0, 1, 0, 4}})), "0 1 0 4 4");
        due("Y2", holeOf(holes(new int[][] {{2, 1, 5, 1}, {2, 1, 2, 4}})), "2 1 5 1 4");
        due("Y2 of three", holeOf(holes(new int[][] {{2, 1, 3, 2}, {2, 1, 5, 1}, {2, 1, 2, 4}})), "2 1 5 1 4");
        due("the most goes ahead of all", holeOf(holes(new int[][] {{0, 0, 1, 1}, {7, 1, 7, 5}})), "7 1 7 5 5");
        due("across two fields", holeOf(holes(new int[][] {{0, 3, 3, 3}, {4, 3, 7, 3}, {2, 4, 4, 5}})), "2 3 4 5 9");
        due("at the right end", holeOf(holes(new int[][] {{7, 0, 7, 5}, {6, 2, 6, 4}})), "7 0 7 5 6");
        due("a step", holeOf(holes(new int[][] {{0, 0, 0, 5}, {1, 2, 1, 5}, {2, 4, 2, 5}})), "0 2 1 5 8");
        due("a step back", holeOf(holes(new int[][] {{7, 0, 7, 5}, {6, 2, 6, 5}, {5, 4, 5, 5}})), "6 2 7 5 8");
    }

    private static StockGrid holes(int[][] clear) {
        StockGrid x = grid(8, 6, 100);
        x.add(0, 0, 0, 7, 5, 1);
        for (int[] r : clear) {
            if (x.sum(0, r[0], r[1], r[2], r[3]) > 0) {
                x.pick(0, r[0], r[1], r[2], r[3], x.sum(0, r[0], r[1], r[2], r[3]));
            }
        }
        return x;
    }

    private static void before() {
        of(23, "the i-th that is open (from 0 on, the outermost). -2: i, the GOOD, RECTANGLE");
        StockGrid x = grid(8, 6, 100);
        due("nothing is open", x.before(0, 0, 0, 0, 7, 5), -2);
        x.begin();
        due("as now", x.before(0, 0, 0, 0, 7, 5), 0);
        due("one more", x.before(1, 0, 0, 0, 7, 5), -2);
        x.add(0, 2, 2, 5, 5, 2);
        x.begin();
        x.add(0, 0, 0, 7, 5, 1);
        x.add(1, 0, 0, 7, 5, 1);
        due("0", x.before(0, 0, 0, 0, 7, 5), 0);
        due("1", x.before(1, 0, 0, 0, 7, 5), 32);
        due("1, a cell", x.before(1, 0, 5, 5, 5, 5), 2);
        due("1, beside it", x.before(1, 0, 6, 5, 7, 5), 0);
        due("1, another good", x.before(1, 1, 0, 0, 7, 5), 0);
        for (int i : new int[] {2, -1, LOW, HIGH}) {
            due("i " + i, x.before(i, 0, 0, 0, 7, 5), -2);
        }
        x.commit();
        due("1 is open no more", x.before(1, 0, 0, 0, 7, 5), -2);
        due("0 is as it was", x.before(0, 0, 0, 0, 7, 5), 0);
        x.cancel();
        due("0 is open no more", x.before(0, 0, 0, 0, 7, 5), -2);
        badGoodsAndNone((g, good) -> g.before(0, good, 0, 0, 1, 1));
        badRects((g, x1, y1, x2, y2) -> g.before(0, 0, x1, y1, x2, y2));
        of(23, "as they were when it was begun, whatever borders came since");
        StockGrid y = grid(100, 100, 100);
        y.add(0, 10, 10, 89, 89, 3);
        y.begin();
        y.add(0, 20, 30, 39, 49, 5);
        y.move(0, 15, 15, 60, 60, 7, 9);
        y.level(0, 5, 5, 70, 77);
        due("a part", y.before(0, 0, 0, 0, 22, 33), 13 * 24 * 3);
        due("all", y.before(0, 0, 0, 0, 99, 99), 19_200);
    }

    private static void find() {
        of(24, "the k-th UNIT (from 1 on). NONE: there are not so many; -3: k is below 1");
        StockGrid x = grid(8, 6, 100);
        due("of none", x.find(0, 0, 1), -1);
        due("of none, columns", x.find(0, 1, 1), -1);
        x.add(0, 2, 1, 3, 2, 2);
        x.add(0, 7, 5, 7, 5, 1);
        long[] rows = {10, 10, 11, 11, 18, 18, 19, 19, 47, -1};
        long[] columns = {10, 10, 18, 18, 11, 11, 19, 19, 47, -1};
        for (int k = 1; k <= 10; k++) {
            due("rows " + k, x.find(0, 0, k), rows[k - 1]);
            due("columns " + k, x.find(0, 1, k), columns[k - 1]);
        }
        for (int order = 0; order < 2; order++) {
            due("greatest", x.find(0, order, MOST), -1);
            due("2 to the 32nd and 1", x.find(0, order, (1L << 32) + 1), -1);
            due("0", x.find(0, order, 0), -3);
            due("-1", x.find(0, order, -1), -3);
            due("least", x.find(0, order, LEAST), -3);
        }
        of(24, "-2: the GOOD, order, ahead of -3 and NONE");
        badWhats((g, order) -> g.find(0, order, 1), BAD_PAIR);
        badWhats((g, order) -> g.find(0, order, 0), BAD_PAIR);
        badWhats((g, order) -> g.find(0, order, MOST), BAD_PAIR);
        badGoodsAndNone((g, good) -> g.find(good, 0, 1));
        badGoodsAndNone((g, good) -> g.find(good, 1, 0));
        of(24, "the greatest k that there can be");
        StockGrid y = grid(10_000, 10_000, CAP);
        for (int i = 0; i < 30; i++) {
            y.add(2, 0, 0, 9_999, 9_999, BILLION);
        }
        due("rows", y.find(2, 0, TOP), 99_999_999);
        due("columns", y.find(2, 1, TOP), 99_999_999);
        due("a cell back by rows", y.find(2, 0, TOP - 30L * BILLION), 99_999_998);
        due("a cell back by columns", y.find(2, 1, TOP - 30L * BILLION), 99_989_999);
        due("one more", y.find(2, 0, TOP + 1), -1);
    }

    private static void findIn() {
        of(25, "Likewise of those in a RECTANGLE, in ROWS' order. NONE; -2; -3");
        StockGrid x = grid(8, 6, 100);
        x.add(0, 1, 1, 4, 4, 2);
        due("first", x.findIn(0, 3, 2, 7, 5, 1), 19);
        due("a cell's last", x.findIn(0, 3, 2, 7, 5, 2), 19);
        due("the next cell's first", x.findIn(0, 3, 2, 7, 5, 3), 20);
        due("a row's last", x.findIn(0, 3, 2, 7, 5, 4), 20);
        due("the next row's first", x.findIn(0, 3, 2, 7, 5, 5), 27);
        due("last", x.findIn(0, 3, 2, 7, 5, 12), 36);
        due("one more", x.findIn(0, 3, 2, 7, 5, 13), -1);
        due("greatest", x.findIn(0, 3, 2, 7, 5, MOST), -1);
        due("without any", x.findIn(0, 5, 0, 7, 5, 1), -1);
        due("of another good", x.findIn(1, 0, 0, 7, 5, 1), -1);
        due("0", x.findIn(0, 3, 2, 7, 5, 0), -3);
        due("0 without any", x.findIn(0, 5, 0, 7, 5, 0), -3);
        due("least", x.findIn(0, 3, 2, 7, 5, LEAST), -3);
        badGoodsAndNone((g, good) -> g.findIn(good, 0, 0, 7, 5, 1));
        badGoodsAndNone((g, good) -> g.findIn(good, 0, 0, 7, 5, 0));
        badRects((g, x1, y1, x2, y2) -> g.findIn(2, x1, y1, x2, y2, 1));
        badRects((g, x1, y1, x2, y2) -> g.findIn(2, x1, y1, x2, y2, 0));
        badRects((g, x1, y1, x2, y2) -> g.findIn(2, x1, y1, x2, y2, MOST));
    }

    private static void touched() {
        of(26, "n 1 to as many as there are. NONE: there are fewer; -2; -3: n is below 1");
        StockGrid x = grid(8, 6, 100);
        x.add(0, 1, 1, 4, 4, 2);
        x.add(0, 2, 1, 3, 4, -2);
        long[] want = {1, 1, 2, 2, 3, 3, 4, 4, 5};
        for (int n = 1; n <= want.length; n++) {
            due("n " + n, x.touched(0, 0, 0, 7, 5, n), want[n - 1]);
        }
        due("all", x.touched(0, 0, 0, 7, 5, 16), 8);
        due("one more", x.touched(0, 0, 0, 7, 5, 17), -1);
        due("of a part", x.touched(0, 4, 2, 7, 5, 6), 3);
        due("of a part, one more", x.touched(0, 4, 2, 7, 5, 7), -1);
        due("without any", x.touched(0, 2, 0, 3, 5, 1), -1);
        due("the greatest of a PICK", x.touched(0, 0, 0, 7, 5, TOP), -1);
        due("above that", x.touched(0, 0, 0, 7, 5, TOP + 1), -1);
        due("greatest", x.touched(0, 0, 0, 7, 5, MOST), -1);
        due("0", x.touched(0, 0, 0, 7, 5, 0), -3);
        due("0 without any", x.touched(0, 2, 0, 3, 5, 0), -3);
        due("least", x.touched(0, 0, 0, 7, 5, LEAST), -3);
        due("nothing is picked", x.sum(0, 0, 0, 7, 5), 16);
        badGoodsAndNone((g, good) -> g.touched(good, 0, 0, 7, 5, 1));
        badGoodsAndNone((g, good) -> g.touched(good, 0, 0, 7, 5, 0));
        badRects((g, x1, y1, x2, y2) -> g.touched(2, x1, y1, x2, y2, 1));
        badRects((g, x1, y1, x2, y2) -> g.touched(2, x1, y1, x2, y2, 0));
        of(26, "would take some from: over fields of many kinds");
        StockGrid z = grid(8, 6, 100);
        z.add(0, 0, 0, 7, 1, 1);
        z.add(0, 3, 1, 3, 1, 4);
        z.add(0, 6, 4, 7, 5, 3);
        due("a cell of 1", z.touched(0, 0, 0, 7, 5, 8), 8);
        due("the cells of 1 ahead of it", z.touched(0, 0, 0, 7, 5, 12), 12);
        due("the same cell", z.touched(0, 0, 0, 7, 5, 16), 12);
        due("behind it", z.touched(0, 0, 0, 7, 5, 17), 13);
        due("over empty rows", z.touched(0, 0, 0, 7, 5, 21), 17);
        due("all", z.touched(0, 0, 0, 7, 5, 32), 20);
        due("from its second row on", z.touched(0, 1, 1, 7, 5, 14), 8);
        due("one more", z.touched(0, 1, 1, 7, 5, 15), 9);
        of(26, "all CELLS of the greatest GRID");
        StockGrid y = grid(10_000, 10_000, CAP);
        for (int i = 0; i < 30; i++) {
            y.add(1, 0, 0, 9_999, 9_999, BILLION);
        }
        due("all", y.touched(1, 0, 0, 9_999, 9_999, TOP), 100_000_000);
        due("all but one cell's", y.touched(1, 0, 0, 9_999, 9_999, TOP - 30L * BILLION), 99_999_999);
    }

    private static void ahead() {
        of(27, "UNITS in CELLS ahead of a CELL, in ROWS' order (0), COLUMNS' order (1). -2");
        StockGrid x = grid(8, 6, 100);
        x.add(0, 0, 0, 7, 5, 1);
        x.add(1, 0, 0, 0, 0, 9);
        for (int order = 0; order < 2; order++) {
            due("the first cell", x.ahead(0, order, 0, 0), 0);
            due("the last cell", x.ahead(0, order, 7, 5), 47);
            due("another good's first cell", x.ahead(1, order, 0, 0), 0);
            due("the next cell", x.ahead(1, order, 1 - order, order), 9);
            due("of none", x.ahead(2, order, 7, 5), 0);
        }
        due("the end of a row, by rows", x.ahead(0, 0, 7, 0), 7);
        due("the end of a row, by columns", x.ahead(0, 1, 7, 0), 42);
        due("the end of a column, by rows", x.ahead(0, 0, 0, 5), 40);
        due("the end of a column, by columns", x.ahead(0, 1, 0, 5), 5);
        int[][] cells = {{8, 0}, {0, 6}, {-1, 0}, {0, -1}, {LOW, 0}, {0, LOW}, {HIGH, 0}, {0, HIGH}};
        for (int[] cell : cells) {
            due("CELL " + Arrays.toString(cell), x.ahead(0, 0, cell[0], cell[1]), -2);
            due("CELL " + Arrays.toString(cell) + ", columns", x.ahead(0, 1, cell[0], cell[1]), -2);
        }
        badWhats((g, order) -> g.ahead(0, order, 1, 1), BAD_PAIR);
        badGoodsAndNone((g, good) -> g.ahead(good, 0, 1, 1));
        badGoodsAndNone((g, good) -> g.ahead(good, 1, 1, 1));
    }

    private static void depot() {
        of(28, "NONE: it has no UNITS; -2 (ahead of it)");
        StockGrid x = grid(8, 6, 100);
        x.add(1, 3, 3, 3, 3, 1);
        for (int what = 0; what < 3; what++) {
            due("what " + what, x.depot(0, what), -1);
        }
        due("what 3", x.depot(0, 3), -2);
        due("what -1", x.depot(0, -1), -2);
        badWhats((g, what) -> g.depot(0, what), 3, -1, LOW, HIGH);
        for (int what = 0; what < 3; what++) {
            int each = what;
            badGoodsAndNone((g, good) -> g.depot(good, each));
        }
        of(28, "of like ones the least x, the least y");
        due("one unit, x", x.depot(1, 0), 3);
        due("one unit, y", x.depot(1, 1), 3);
        due("one unit, HAUL", x.depot(1, 2), 0);
        x.add(1, 7, 5, 7, 5, 1);
        due("two units: all between are like, x", x.depot(1, 0), 3);
        due("two units: all between are like, y", x.depot(1, 1), 3);
        due("two units, HAUL", x.depot(1, 2), 6);
        x.add(1, 7, 5, 7, 5, 1);
        due("three units, x", x.depot(1, 0), 7);
        due("three units, y", x.depot(1, 1), 5);
        x.add(1, 0, 0, 0, 0, 1);
        due("four units, x", x.depot(1, 0), 3);
        due("four units, y", x.depot(1, 1), 3);
        due("four units, HAUL", x.depot(1, 2), 18);
        of(28, "x and y each by themselves: where no UNIT is");
        StockGrid y = grid(8, 6, 100);
        y.add(0, 0, 5, 0, 5, 2);
        y.add(0, 5, 0, 5, 0, 1);
        y.add(0, 7, 1, 7, 1, 1);
        y.add(0, 6, 2, 6, 2, 1);
        due("x", y.depot(0, 0), 5);
        due("y", y.depot(0, 1), 2);
        due("HAUL", y.depot(0, 2), 2 * 8 + 2 + 3 + 1);
        due("even field, x", y.add(1, 0, 0, 7, 5, 1) * 10 + y.depot(1, 0), 483);
        due("even field, y", y.depot(1, 1), 2);
        due("odd field, x", y.add(2, 0, 0, 6, 4, 1) * 10 + y.depot(2, 0), 353);
        due("odd field, y", y.depot(2, 1), 2);
    }

    private static void haul() {
        of(28, "-6: HAUL is above 3,000,000,000,000,000,000 (what 2)");
        StockGrid x = grid(10_000, 1, CAP);
        for (int i = 0; i < 120; i++) {
            x.add(0, 0, 0, 9_999, 0, BILLION);
        }
        due("25,000,000 times 120,000,000,000", x.depot(0, 2), TOP);
        x.add(0, 5_000, 0, 5_000, 0, 1);
        due("one more", x.depot(0, 2), TOP);
        due("the depot went along", x.depot(0, 0), 5_000);
        x.add(0, 4_999, 0, 4_999, 0, 1);
        due("one above", x.depot(0, 2), -6);
        due("x all the same", x.depot(0, 0), 4_999);
        due("y all the same", x.depot(0, 1), 0);
        StockGrid y = grid(10_000, 10_000, CAP);
        for (int i = 0; i < 30; i++) {
            y.add(0, 0, 0, 9_999, 9_999, BILLION);
        }
        due("far above", y.depot(0, 2), -6);
        due("x", y.depot(0, 0), 4_999);
        due("y", y.depot(0, 1), 4_999);
        of(28, "across and down together");
        StockGrid z = grid(10_000, 10_000, CAP);
        for (int i = 0; i < 60; i++) {
            z.add(0, 0, 0, 0, 9_999, BILLION);
        }
        for (int i = 0; i < 60; i++) {
            z.add(0, 0, 0, 9_999, 0, BILLION);
        }
        due("each not above, together above", z.depot(0, 2) == -6 ? 1 : 0, 1);
        StockGrid w = grid(10_000, 10_000, CAP);
        for (int i = 0; i < 59; i++) {
            w.add(0, 0, 0, 0, 9_999, BILLION);
        }
        due("down alone", w.depot(0, 2), 25_000_000L * 59 * BILLION);
    }

    private static String windowOf(StockGrid x, int a, int b) {
        return x.window(0, a, b, 0) + " " + x.window(0, a, b, 1) + " " + x.window(0, a, b, 2);
    }

    private static void window() {
        of(29, "-3: A, B (1 to W, H); -2: the GOOD, what (ahead of it)");
        StockGrid x = grid(8, 6, 100);
        due("without any: the first", windowOf(x, 3, 2), "0 0 0");
        x.add(0, 7, 5, 7, 5, 4);
        due("1 by 1", windowOf(x, 1, 1), "7 5 4");
        due("W by H", windowOf(x, 8, 6), "0 0 4");
        due("W by 1", windowOf(x, 8, 1), "0 5 4");
        due("1 by H", windowOf(x, 1, 6), "7 0 4");
        due("the first that has it", windowOf(x, 3, 2), "5 4 4");
        for (int side : new int[] {0, -1, LOW, HIGH}) {
            due("A " + side, x.window(0, side, 1, 0), -3);
            due("B " + side, x.window(0, 1, side, 0), -3);
        }
        due("A is W and 1", x.window(0, 9, 1, 0), -3);
        due("B is H and 1", x.window(0, 1, 7, 0), -3);
        due("A is not H's", x.window(0, 7, 6, 2), 4);
        badWhats((g, what) -> g.window(0, 1, 1, what), 3, -1, LOW, HIGH);
        badWhats((g, what) -> g.window(0, 0, 9, what), 3, -1, LOW, HIGH);
        badGoodsAndNone((g, good) -> g.window(good, 1, 1, 0));
        badGoodsAndNone((g, good) -> g.window(good, 0, 0, 0));
        of(29, "the most UNITS, of like ones the first by Y1, then X1");
        x.add(0, 0, 5, 0, 5, 4);
        due("X1", windowOf(x, 1, 1), "0 5 4");
        x.add(0, 4, 1, 4, 1, 4);
        due("Y1 ahead of X1", windowOf(x, 1, 1), "4 1 4");
        due("as early as it has it", windowOf(x, 3, 1), "2 1 4");
        due("no earlier than 0", windowOf(x, 7, 2), "0 0 4");
        x.add(0, 5, 1, 5, 1, 1);
        due("more goes ahead", windowOf(x, 2, 1), "4 1 5");
        due("within a field", windowOf(grid8(), 2, 2), "1 1 12");
        due("as wide as a field", windowOf(grid8(), 4, 3), "1 1 36");
        due("wider than a field", windowOf(grid8(), 5, 4), "0 0 36");
        windowOfMany();
        of(29, "the most that there can be");
        StockGrid y = grid(10_000, 10_000, CAP);
        for (int i = 0; i < 30; i++) {
            y.add(0, 0, 0, 9_999, 9_999, BILLION);
        }
        due("all", windowOf(y, 10_000, 10_000), "0 0 " + TOP);
        y.add(0, 0, 0, 0, 0, -1);
        due("beside the first", windowOf(y, 9_999, 10_000), "1 0 " + (TOP - 300_000_000_000_000L));
    }

    private static void windowOfMany() {
        of(29, "the most UNITS among as many BORDERS as there can be");
        StockGrid x = grid(100, 100, 100);
        for (int at = 1; at < 48; at++) {
            x.add(0, 2 * at, 2 * at, 99, 99, 1);
        }
        due("48 across, 48 down", x.borders(0, 0) * 100 + x.borders(1, 0), 4848);
        due("within the last field", windowOf(x, 3, 4), "94 94 564");
        due("wider than it", windowOf(x, 8, 6), "92 94 " + (6 * 47 * 6 + 2 * 46 * 6));
        due("all", windowOf(x, 100, 100).substring(0, 4), "0 0 ");
        x.add(0, 88, 92, 89, 93, 50);
        due("at the last but some", windowOf(x, 1, 1), "88 92 94");
        StockGrid y = grid(8, 6, 100);
        y.add(0, 0, 1, 0, 1, 1);
        y.add(0, 0, 3, 0, 4, 2);
        due("in the first columns", windowOf(y, 1, 2), "0 3 4");
        due("in the first columns, higher", windowOf(y, 2, 4), "0 1 5");
        due("W by H behind others", windowOf(y, 8, 6), "0 0 5");
        due("1 by 1 behind that", windowOf(y, 1, 1), "0 3 2");
        due("another good behind that", y.window(1, 7, 5, 0) * 10 + y.window(1, 7, 5, 1), 0);
    }

    private static StockGrid grid8() {
        StockGrid x = grid(8, 6, 100);
        x.add(0, 1, 1, 4, 3, 3);
        return x;
    }

    private static void line() {
        of(30, "that of the most UNITS, of like ones the first. -2");
        StockGrid x = grid(8, 6, 100);
        for (int axis = 0; axis < 2; axis++) {
            due("without any: the first", x.line(0, axis, 0), 0);
            due("without any: 0", x.line(0, axis, 1), 0);
        }
        x.add(0, 7, 5, 7, 5, 3);
        due("the last x", x.line(0, 0, 0), 7);
        due("the last y", x.line(0, 1, 0), 5);
        due("its units", x.line(0, 0, 1), 3);
        x.add(0, 2, 1, 4, 3, 1);
        due("like ones, x", x.line(0, 0, 0), 2);
        due("like ones, y", x.line(0, 1, 0), 1);
        x.add(0, 4, 3, 4, 3, 1);
        due("within", x.line(0, 0, 0) * 10 + x.line(0, 1, 0), 43);
        due("its units", x.line(0, 0, 1) * 10 + x.line(0, 1, 1), 44);
        due("of another good", x.line(1, 0, 1), 0);
        badWhats((g, axis) -> g.line(0, axis, 0), BAD_PAIR);
        badWhats((g, what) -> g.line(0, 0, what), BAD_PAIR);
        badWhats((g, what) -> g.line(0, 1, what), BAD_PAIR);
        badGoodsAndNone((g, good) -> g.line(good, 0, 0));
    }

    private static void borders() {
        of(31, "0, and each X1, X2 and 1, but W (H), of RECTANGLES that were added to. -2");
        StockGrid x = grid(8, 6, 100);
        due("0 alone", x.borders(0, 0) * 10 + x.borders(1, 0), 11);
        x.add(0, 0, 0, 7, 5, 1);
        due("0 and W, 0 and H", x.borders(0, 0) * 10 + x.borders(1, 0), 11);
        x.add(0, 7, 5, 7, 5, 1);
        due("W less 1", bordersOf(x, 0) + ", " + bordersOf(x, 1), "0 7, 0 5");
        x.add(0, 0, 0, 0, 0, 1);
        due("1", bordersOf(x, 0) + ", " + bordersOf(x, 1), "0 1 7, 0 1 5");
        of(31, "whether or not more than one time");
        x.add(0, 0, 0, 0, 0, 1);
        x.add(0, 0, 0, 0, 0, -2);
        due("as before", bordersOf(x, 0) + ", " + bordersOf(x, 1), "0 1 7, 0 1 5");
        of(31, "LATE, if one above it was there ahead of that act");
        due("1 came late", x.borders(0, 1) * 10 + x.borders(1, 1), 11);
        StockGrid y = grid(100, 100, 100);
        y.add(0, 10, 50, 19, 59, 1);
        due("by one act: none is above the other ahead of it", y.borders(0, 1) + y.borders(1, 1), 0);
        y.add(0, 20, 60, 29, 69, 1);
        due("behind the last", y.borders(0, 1) + y.borders(1, 1), 0);
        y.add(0, 29, 0, 98, 69, 1);
        due("one below, one above the last", y.borders(0, 1), 1);
        due("none down: 0 is there", y.borders(1, 1), 0);
        y.add(0, 29, 0, 98, 69, 1);
        due("one that was there is not so again", y.borders(0, 1), 1);
        y.add(0, 1, 55, 2, 56, 1);
        due("two more of one act", y.borders(0, 1) * 10 + y.borders(1, 1), 32);
        y.begin();
        y.add(0, 5, 0, 99, 99, 1);
        y.cancel();
        due("by what is cancelled, too", y.borders(0, 1), 4);
        due("it stays", bordersOf(y, 0), "0 1 3 5 10 20 29 30 99");
        y.zone(0, 33, 33, 44, 44, 2000);
        due("not by a ZONE", y.borders(0, 0), 9);
        badWhats((g, axis) -> g.borders(axis, 0), BAD_PAIR);
        badWhats((g, what) -> g.borders(0, what), BAD_PAIR);
        badWhats((g, what) -> g.borders(1, what), BAD_PAIR);
        y.world(100, 100, 100);
        due("till world()", y.borders(0, 0) * 10 + y.borders(0, 1), 10);
    }

    private static void border() {
        of(32, "BORDER i of an axis, rising (from 0 on). NONE: not so many; -2: axis; -3: i is below 0");
        StockGrid x = grid(8, 6, 100);
        x.add(0, 3, 2, 7, 4, 1);
        x.add(0, 1, 1, 1, 1, 1);
        due("across", bordersOf(x, 0), "0 1 2 3");
        due("down", bordersOf(x, 1), "0 1 2 5");
        for (int axis = 0; axis < 2; axis++) {
            due("the first", x.border(axis, 0), 0);
            due("one beyond", x.border(axis, 4), -1);
            due("greatest", x.border(axis, HIGH), -1);
            due("-1", x.border(axis, -1), -3);
            due("least", x.border(axis, LOW), -3);
        }
        for (int axis : BAD_PAIR) {
            due("axis " + axis, x.border(axis, 0), -2);
            due("axis " + axis + ", ahead of -3", x.border(axis, -1), -2);
            due("axis " + axis + ", ahead of NONE", x.border(axis, HIGH), -2);
        }
        of(32, "48 at most");
        StockGrid y = new StockGrid();
        fillAcross(y, 100, 2, 48);
        due("the last", y.border(0, 47), 47);
        due("one beyond", y.border(0, 48), -1);
    }

    private static void act() {
        of(33, "what 0 to 6, as told, ahead of a MOVE. -2: i, what");
        StockGrid x = grid(10_000, 10_000, CAP);
        due("none", x.act(0, 0), -2);
        x.add(0, 1, 2, 3, 4, BILLION);
        x.add(0, 1, 2, 3, 4, -BILLION);
        x.add(2, 0, 0, 0, 9_999, 1);
        x.pick(2, 0, 0, 9_999, 9_999, 3);
        x.move(2, 0, 9_999, 0, 9_999, 9_999, -9_999);
        x.move(2, 9_999, 0, 9_999, 0, -9_999, 9_999);
        x.move(1, 5, 5, 6, 6, 0, -1);
        x.level(2, 0, 9_990, 9, 9_999);
        x.level(1, 7, 8, 9, 10);
        long[][] want = {
            {0, 0, 1, 2, 3, 4, BILLION}, {0, 0, 1, 2, 3, 4, -BILLION}, {0, 2, 0, 0, 0, 9_999, 1},
            {1, 2, 0, 0, 9_999, 9_999, 3}, {2, 2, 0, 9_999, 0, 9_999, 999_890_001},
            {2, 2, 9_999, 0, 9_999, 0, -999_890_001}, {2, 1, 5, 5, 6, 6, -1},
            {3, 2, 0, 9_990, 9, 9_999, 10}, {3, 1, 7, 8, 9, 10, 0}};
        for (int i = 0; i < want.length; i++) {
            for (int what = 0; what < 7; what++) {
                due("act(" + i + ", " + what + ")", x.act(i, what), want[i][what]);
            }
        }
        for (int bad : new int[] {9, -1, LOW, HIGH}) {
            due("i " + bad, x.act(bad, 0), -2);
            due("what " + bad, x.act(0, bad), -2);
        }
        due("what 7", x.act(0, 7), -2);
        of(33, "STANDING: those that weren't CANCELLED; no refused ones, no ZONES");
        x.add(0, 0, 0, 0, 0, -1);
        x.zone(0, 0, 0, 0, 0, 5);
        due("none more", x.count(4), 9);
        x.begin();
        x.add(1, 0, 0, 0, 0, 1);
        due("one more", x.act(9, 6), 1);
        x.cancel();
        due("none more", x.act(9, 6), -2);
        of(33, "n of the greatest PICK");
        StockGrid y = grid(10_000, 10_000, CAP);
        for (int i = 0; i < 30; i++) {
            y.add(1, 0, 0, 9_999, 9_999, BILLION);
        }
        y.level(1, 0, 0, 9_999, 9_999);
        y.pick(1, 0, 0, 9_999, 9_999, TOP);
        due("LEVEL", y.act(30, 6), TOP);
        due("PICK", y.act(31, 6), TOP);
    }

    private static void actForgotten() {
        of(33, "the latest 40 are told: as a 41st comes the eldest is forgotten");
        StockGrid x = grid(8, 6, 100_000);
        for (int i = 1; i <= 40; i++) {
            x.add(0, 0, 0, 0, 0, i);
        }
        due("40: the eldest", x.act(0, 6), 1);
        due("40: the latest", x.act(39, 6), 40);
        due("no 41st", x.act(40, 6), -2);
        x.pick(0, 0, 0, 7, 5, 41);
        due("41: the eldest", x.act(0, 6), 2);
        due("41: the latest", x.act(39, 6), 41);
        due("it is a PICK", x.act(39, 0), 1);
        due("no 41st", x.act(40, 6), -2);
        for (int i = 42; i <= 95; i++) {
            x.add(0, 0, 0, 0, 0, i);
        }
        for (int i = 0; i < 40; i++) {
            due("95: act " + i, x.act(i, 6), 56 + i);
        }
        x.begin();
        x.add(0, 0, 0, 0, 0, 96);
        x.cancel();
        due("one cancelled: 39 are told", x.count(4), 39);
        due("one cancelled: the eldest", x.act(0, 6), 57);
        due("one cancelled: the latest", x.act(38, 6), 95);
        due("one cancelled: no 40th", x.act(39, 6), -2);
        x.add(0, 0, 0, 0, 0, 97);
        due("40 again", x.count(4), 40);
        due("the eldest is still that", x.act(0, 6), 57);
        due("the latest", x.act(39, 6), 97);
        due("what they did stands", x.at(0, 0, 0), 95 * 96 / 2 - 41 - 41 + 97);
    }

    private static void count() {
        of(34, "0 CELLS, 1 W, 2 H, 3 open, 4 STANDING that are told, 5 bytes, 6 CAP. NONE for others");
        StockGrid x = some();
        long[] want = {48, 8, 6, 1, 4, 20, 100};
        for (int what = 0; what < 7; what++) {
            due("what " + what, x.count(what), want[what]);
        }
        for (int what : new int[] {7, -1, LOW, HIGH}) {
            due("what " + what, x.count(what), -1);
        }
        x.world(10_000, 10_000, CAP);
        due("the most CELLS", x.count(0), 100_000_000);
        due("the greatest CAP", x.count(6), CAP);
        due("the tape stays", x.count(5), 20);
    }

    /** On an object with something of everything; the last ones at a limit of their own. */
    private static void refusedChangeNothing() {
        Build s = BoundaryTest::fillSome;
        of(2, "Refused calls change nothing");
        refused("world", -3, s, x -> x.world(0, 6, 100));
        refused("world", -3, s, x -> x.world(8, 10_001, 100));
        refused("world", -3, s, x -> x.world(8, 6, 0));
        of(3, "Refused calls change nothing");
        refused("add good", -2, s, x -> x.add(-1, 0, 0, 1, 1, 1));
        refused("add rectangle", -2, s, x -> x.add(0, 0, 0, 8, 1, 1));
        refused("add v", -3, s, x -> x.add(0, 2, 2, 3, 3, 0));
        refused("add -5", -5, s, x -> x.add(0, 0, 0, 5, 5, -1));
        refused("add -7", -7, s, x -> x.add(0, 2, 5, 5, 5, 100));
        refused("add -9", -9, s, x -> x.add(0, 2, 4, 5, 5, 60));
        of(4, "Refused calls change nothing");
        refused("pick n", -3, s, x -> x.pick(0, 2, 2, 3, 3, 0));
        refused("pick -5", -5, s, x -> x.pick(0, 2, 2, 5, 5, 1_000));
        refused("pick good", -2, s, x -> x.pick(3, 2, 2, 5, 5, 1));
        of(5, "Refused calls change nothing");
        refused("move 0", -3, s, x -> x.move(0, 2, 2, 3, 3, 0, 0));
        refused("move out", -2, s, x -> x.move(0, 2, 2, 3, 3, 0, 3));
        refused("move -7", -7, y -> {
            fillSome(y);
            y.add(1, 7, 0, 7, 0, 95);
        }, x -> x.move(0, 4, 1, 4, 1, 3, -1));
        refused("move -9", -9, y -> {
            fillSome(y);
            y.zone(3, 6, 5, 7, 5, 8);
        }, x -> x.move(0, 4, 1, 4, 1, 2, 4));
        of(6, "Refused calls change nothing");
        refused("level", -2, s, x -> x.level(0, 3, 3, 2, 3));
        refused("level -7", -7, y -> {
            fillSome(y);
            y.add(1, 7, 0, 7, 0, 99);
        }, x -> x.level(0, 4, 0, 7, 1));
        refused("level -9", -9, y -> {
            fillSome(y);
            y.add(1, 0, 5, 1, 5, 99);
            y.zone(1, 2, 2, 5, 5, y.sum(-1, 2, 2, 5, 5));
        }, x -> x.level(1, 0, 5, 5, 5));
        of(7, "Refused calls change nothing");
        refused("zone", -2, s, x -> x.zone(6, 0, 0, 1, 1, 5));
        refused("zone rectangle", -2, s, x -> x.zone(1, 0, 0, 8, 1, 5));
        refused("zone LIMIT", -3, s, x -> x.zone(1, 0, 0, 1, 1, -1));
        refused("zone -9", -9, s, x -> x.zone(1, 0, 0, 7, 5, 5));
        refusedOfWhatIsOpen();
        refusedByBorders();
    }

    private static void refusedOfWhatIsOpen() {
        Build eight = y -> {
            fillSome(y);
            for (int i = 2; i <= 8; i++) {
                y.begin();
            }
        };
        Build none = y -> {
            fillSome(y);
            y.commit();
        };
        of(9, "Refused calls change nothing");
        refused("begin", -4, eight, x -> x.begin());
        of(10, "Refused calls change nothing");
        refused("commit", -8, none, x -> x.commit());
        of(11, "Refused calls change nothing");
        refused("cancel", -8, none, x -> x.cancel());
        of(12, "Refused calls change nothing");
        refused("feed", -4, y -> {
            fillSome(y);
            y.run(0);
            tape(y, "begin;" + " ".repeat(494));
        }, x -> x.feed(1, 2, 3, 4, 5));
        of(13, "Refused calls change nothing");
        refused("run", -3, BoundaryTest::fillSome, x -> x.run(-1));
        refused("run", -3, BoundaryTest::fillSome, x -> x.run(21));
        of(14, "nothing else changes");
        StockGrid with = some();
        StockGrid without = some();
        due("a FAULT", tellText(with, "cancel; add 0 0 0 0 0 1; add"), -31);
        due("another", tellText(without, "add 5"), -31);
        tellText(with, "commit; ?");
        tellText(without, "commit; ?");
        due("what stands then", stateOf(with), stateOf(without));
    }

    private static void refusedByBorders() {
        Build full = y -> {
            y.world(100, 2, 100);
            for (int at = 1; at < 44; at += 2) {
                y.add(0, at, 0, at, 1, 1);
            }
            y.begin();
            y.add(1, 60, 0, 99, 1, 1);
            y.add(1, 70, 0, 79, 1, 1);
            y.cancel();
            y.begin();
            y.add(1, 43, 0, 59, 1, 3);
            y.add(1, 43, 0, 43, 1, 1);
        };
        of(3, "Refused calls change nothing");
        refused("add -4", -4, full, x -> x.add(0, 65, 0, 65, 0, 1));
        of(4, "Refused calls change nothing");
        refused("pick -4", -4, full, x -> x.pick(1, 0, 0, 99, 1, 9));
        of(5, "Refused calls change nothing");
        refused("move -4", -4, full, x -> x.move(1, 10, 0, 20, 1, 50, 0));
        of(6, "Refused calls change nothing");
        refused("level -4 by its RECTANGLE", -4, full, x -> x.level(1, 43, 0, 61, 1));
        refused("level -4 by what is over", -4, full, x -> x.level(1, 44, 0, 69, 1));
        of(3, "48 BORDERS and those of what is cancelled");
        StockGrid x = new StockGrid();
        full.on(x);
        due("48", x.borders(0, 0), 48);
    }

    /** 48 borders of both axes, each cell a field of its own; then a small grid in its place. */
    private static void fullOfBorders() {
        StockGrid x = grid(48, 48, 100);
        for (int at = 0; at < 48; at++) {
            x.add(0, at, at, at, at, 1);
        }
        of(31, "48 at most of each axis");
        due("48 and 48", x.borders(0, 0) * 100 + x.borders(1, 0), 4848);
        due("none came late", x.borders(0, 1) + x.borders(1, 1), 0);
        of(22, "among 48 BORDERS of each axis");
        due("hole", holeOf(x), "24 0 47 23 576");
        of(24, "among 48 BORDERS of each axis");
        due("rows", x.find(0, 0, 48), 2_303);
        due("columns", x.find(0, 1, 47), 2_254);
        of(28, "among 48 BORDERS of each axis");
        due("x, y", x.depot(0, 0) * 100 + x.depot(0, 1), 2323);
        due("HAUL", x.depot(0, 2), 1_152);
        of(29, "among 48 BORDERS of each axis");
        due("the first of 48", windowOf(x, 1, 1), "0 0 1");
        due("the first of 47", windowOf(x, 2, 2), "0 0 2");
        of(30, "among 48 BORDERS of each axis");
        due("the first of 48", x.line(0, 0, 0) * 100 + x.line(0, 1, 0), 0);
        x.add(0, 47, 47, 47, 47, 1);
        due("the last", x.line(0, 0, 0) * 100 + x.line(0, 1, 0), 4747);
        of(5, "no BORDER comes, as there are 48");
        due("move of all but a row and a column", x.move(0, 1, 1, 47, 47, -1, -1), 48);
        due("the last cell", x.at(0, 47, 47), 0);
        due("the last but one", x.at(0, 46, 46), 2);
        of(6, "no BORDER comes, as there are 48");
        due("level", x.level(0, 0, 0, 47, 47), 0);
        due("the first row and one", x.ahead(0, 0, 2, 1), 49);
        of(2, "all CELLS are empty, whatever there was");
        x.add(0, 0, 0, 47, 47, 9);
        x.world(8, 6, 100);
        x.add(0, 2, 2, 3, 3, 1);
        smallBehindGreat(x);
        of(5, "Refused calls change nothing");
        x.zone(0, 5, 0, 7, 5, 0);
        due("two BORDERS more, but -9", x.move(0, 2, 2, 3, 3, 3, 2), -9);
        x.add(0, 2, 2, 3, 3, 1);
        x.add(0, 2, 2, 3, 3, -1);
        smallBehindGreat(x);
        of(29, "W by H: there is but one");
        x.zone(0, 0, 0, 7, 5, TOP);
        x.add(0, 0, 5, 7, 5, 5);
        due("window", windowOf(x, 8, 6), "0 0 44");
        due("W by 5: there are two", windowOf(x, 8, 5), "0 1 44");
        due("1 by 1: there are 48", windowOf(x, 1, 1), "0 5 5");
        due("W by 4: there are three", windowOf(x, 8, 4), "0 2 44");
        of(31, "BORDERS those at 0, none LATE");
        x.world(60, 60, 100);
        x.add(0, 50, 50, 59, 59, 1);
        x.add(0, 50, 50, 59, 59, 1);
        due("late", x.borders(0, 1) + x.borders(1, 1), 0);
    }

    private static void smallBehindGreat(StockGrid x) {
        due("borders", bordersOf(x, 0) + ", " + bordersOf(x, 1), "0 2 4, 0 2 4");
        due("late", x.borders(0, 1) + x.borders(1, 1), 0);
        due("hole", holeOf(x), "4 0 7 5 24");
        due("lines", x.line(0, 0, 0) * 100 + x.line(0, 1, 0), 202);
        due("their units", x.line(0, 0, 1) * 100 + x.line(0, 1, 1), 202);
        due("depot", x.depot(0, 0) * 100 + x.depot(0, 1), 202);
        due("HAUL", x.depot(0, 2), 4);
        due("window", windowOf(x, 3, 3), "1 1 4");
        due("the last unit", x.find(0, 0, 4) * 100 + x.find(0, 1, 4), 2727);
        due("no more", x.find(0, 0, 5) + x.find(0, 1, 5), -2);
    }

    /** All ways in which some cells of a small grid have a unit each. */
    private static void allSmallGrids() {
        for (int cells = 0; cells < 1 << 12; cells++) {
            StockGrid x = grid(4, 3, 1);
            for (int i = 0; i < 12; i++) {
                if ((cells >> i & 1) == 1) {
                    x.add(0, i % 4, i / 4, i % 4, i / 4, 1);
                }
            }
            of(22, "the most CELLS, of like ones the first by Y1, then X1, then Y2, of grid " + cells);
            due("hole", holeOf(x), holeByHand(cells));
            of(29, "the most UNITS, of like ones the first by Y1, then X1, of grid " + cells);
            for (int size = 0; size < 12; size++) {
                due("window " + size, windowOf(x, 1 + size % 4, 1 + size / 4),
                        windowByHand(cells, 1 + size % 4, 1 + size / 4));
            }
            of(28, "of like ones the least x, the least y, of grid " + cells);
            due("depot", x.depot(0, 0) + " " + x.depot(0, 1) + " " + x.depot(0, 2), depotByHand(cells));
        }
    }

    private static int unitsIn(int cells, int x1, int y1, int x2, int y2) {
        int units = 0;
        for (int y = y1; y <= y2; y++) {
            for (int x = x1; x <= x2; x++) {
                units += cells >> (4 * y + x) & 1;
            }
        }
        return units;
    }

    private static String holeByHand(int cells) {
        int most = 0;
        String best = "-1 -1 -1 -1 -1";
        for (int i = 0; i < 12; i++) {
            for (int y2 = i / 4; y2 < 3; y2++) {
                for (int x2 = i % 4; x2 < 4; x2++) {
                    int many = (x2 - i % 4 + 1) * (y2 - i / 4 + 1);
                    if (many > most && unitsIn(cells, i % 4, i / 4, x2, y2) == 0) {
                        most = many;
                        best = i % 4 + " " + i / 4 + " " + x2 + " " + y2 + " " + many;
                    }
                }
            }
        }
        return best;
    }

    private static String windowByHand(int cells, int a, int b) {
        int most = -1;
        String best = "";
        for (int y = 0; y + b <= 3; y++) {
            for (int x = 0; x + a <= 4; x++) {
                int units = unitsIn(cells, x, y, x + a - 1, y + b - 1);
                if (units > most) {
                    most = units;
                    best = x + " " + y + " " + units;
                }
            }
        }
        return best;
    }

    private static String depotByHand(int cells) {
        int least = HIGH;
        String best = "-1 -1 -1";
        for (int x = 0; x < 4 && cells != 0; x++) {
            for (int y = 0; y < 3; y++) {
                int haul = 0;
                for (int i = 0; i < 12; i++) {
                    haul += (cells >> i & 1) * (Math.abs(i % 4 - x) + Math.abs(i / 4 - y));
                }
                if (haul < least) {
                    least = haul;
                    best = x + " " + y + " " + haul;
                }
            }
        }
        return best;
    }
}
