import java.nio.charset.StandardCharsets;

/** Each promise of the document by hand: ordinary inputs, the edges it names, wrong inputs. */
public final class PromiseTest {
    private static final long TOP = 3_000_000_000_000_000_000L;
    private static final int LOW = Integer.MIN_VALUE;
    private static final int HIGH = Integer.MAX_VALUE;
    private static int wrong = 0;
    private static int asked = 0;
    private static int promise = 0;

    public static void main(String[] args) {
        promise = 1; newObject();
        promise = 2; world();
        promise = 3; add(); addOrder(); addTotals(); addBorders();
        promise = 4; pick(); pickBorders();
        promise = 5; move(); moveBorders(); moveZones();
        promise = 6; level(); levelBorders(); levelRefused();
        promise = 7; zone();
        promise = 8; zoneAt();
        promise = 9; begin();
        promise = 10; commit();
        promise = 11; cancel(); cancelForgotten();
        promise = 12; feed();
        promise = 13; run(); runRefused();
        promise = 14; fault(); textFaults(); textNumbers(); textActs();
        promise = 15; sum();
        promise = 16; at();
        promise = 17; bound();
        promise = 18; empty();
        promise = 19; share();
        promise = 20; atLeast();
        promise = 21; value();
        promise = 22; hole();
        promise = 23; before();
        promise = 24; find();
        promise = 25; findIn();
        promise = 26; touched();
        promise = 27; ahead();
        promise = 28; depot();
        promise = 29; window();
        promise = 30; line();
        promise = 31; borders();
        promise = 32; border();
        promise = 33; act();
        promise = 34; count();
        System.out.println(asked + " answers asked, " + wrong + " are not as due");
        if (wrong != 0) {
            System.exit(1);
        }
    }

    private static void due(String call, long got, long want) {
        asked++;
        if (got != want) {
            wrong++;
            System.out.println("promise " + promise + ": " + call + " answered " + got + ", due is " + want);
        }
    }

    private static StockGrid world(int w, int h, long cap) {
        StockGrid x = new StockGrid();
        due("world", x.world(w, h, cap), (long) w * h);
        return x;
    }

    /** Puts a text on the tape, filled up with bytes that are not of it. */
    private static int put(StockGrid x, String text) {
        byte[] bytes = text.getBytes(StandardCharsets.ISO_8859_1);
        for (int i = 0; i < bytes.length; i += 20) {
            int[] five = new int[5];
            for (int j = 0; j < 20; j++) {
                int b = i + j < bytes.length ? bytes[i + j] & 255 : '#';
                five[j / 4] = five[j / 4] << 8 | b;
            }
            x.feed(five[0], five[1], five[2], five[3], five[4]);
        }
        return bytes.length;
    }

    private static int tell(StockGrid x, String text) {
        return x.run(put(x, text));
    }

    private static void faulty(String text, int what, int place) {
        StockGrid x = world(50, 50, 1000);
        due("'" + text + "'", tell(x, text), -30 - what);
        due("'" + text + "' fault(0)", x.fault(0), what);
        due("'" + text + "' fault(1)", x.fault(1), place);
        due("'" + text + "' fault(2)", x.fault(2), 0);
        due("'" + text + "' count(3)", x.count(3), 0);
        due("'" + text + "' count(4)", x.count(4), 0);
        due("'" + text + "' count(5)", x.count(5), 0);
    }

    private static void sound(String text, int done) {
        StockGrid x = world(50, 50, 1000);
        due("'" + text + "'", tell(x, text), done);
        due("'" + text + "' fault(0)", x.fault(0), 0);
        due("'" + text + "' fault(1)", x.fault(1), -1);
    }

    private static void newObject() {
        StockGrid x = new StockGrid();
        due("count(0)", x.count(0), 1);
        due("count(1)", x.count(1), 1);
        due("count(2)", x.count(2), 1);
        due("count(3)", x.count(3), 0);
        due("count(4)", x.count(4), 0);
        due("count(5)", x.count(5), 0);
        due("count(6)", x.count(6), 1_000_000_000_000L);
        due("sum of all", x.sum(-1, 0, 0, 0, 0), 0);
        due("borders across", x.borders(0, 0), 1);
        due("borders down", x.borders(1, 0), 1);
        due("zoneAt", x.zoneAt(0, 0), -1);
        due("a zone without one refuses none", x.add(0, 0, 0, 0, 0, 7), 7);
        due("NONE", StockGrid.NONE, -1);
    }

    private static void world() {
        StockGrid x = new StockGrid();
        due("least", x.world(1, 1, 1), 1);
        due("greatest", x.world(10_000, 10_000, 1_000_000_000_000L), 100_000_000);
        for (int side : new int[] {0, -1, 10_001, LOW, HIGH}) {
            due("w " + side, x.world(side, 5, 5), -3);
            due("h " + side, x.world(5, side, 5), -3);
        }
        for (long cap : new long[] {0, -1, 1_000_000_000_001L, Long.MIN_VALUE, Long.MAX_VALUE}) {
            due("cap " + cap, x.world(5, 5, cap), -3);
        }
        due("refused: W stays", x.count(1), 10_000);
        due("refused: CAP stays", x.count(6), 1_000_000_000_000L);
        x.add(1, 5, 5, 9, 9, 3);
        x.zone(2, 0, 0, 9, 9, 1000);
        x.begin();
        due("refused: open stays", x.world(0, 0, 0), -3);
        due("open", x.count(3), 1);
        put(x, "begin;cancel!");
        x.run(13);
        due("fault there", x.fault(1), 12);
        put(x, "begin;");
        due("world(6, 3)", x.world(6, 3, 9), 18);
        due("empty", x.empty(0, 0, 5, 2), 18);
        due("borders across", x.borders(0, 0), 1);
        due("borders down", x.borders(1, 0), 1);
        due("open", x.count(3), 0);
        due("standing", x.count(4), 0);
        due("tape stays", x.count(5), 20);
        due("fault stays", x.fault(0), 1);
        due("place stays", x.fault(1), 12);
        due("zone is gone", x.zoneAt(2, 4), -1);
        due("cancel", x.cancel(), -8);
        due("act", x.act(0, 0), -2);
        due("late is gone", x.borders(0, 1), 0);
    }

    private static void add() {
        StockGrid x = world(10, 10, 100);
        due("good 0", x.add(0, 1, 1, 2, 2, 3), 12);
        due("good 2", x.add(2, 1, 1, 2, 2, 4), 16);
        due("less", x.add(0, 1, 1, 1, 2, -3), 6);
        due("at", x.at(0, 1, 1), 0);
        due("at", x.at(0, 2, 1), 3);
        due("at of another", x.at(1, 2, 1), 0);
        due("good 3", x.add(3, 0, 0, 1, 1, 1), -2);
        due("good NONE", x.add(-1, 0, 0, 1, 1, 1), -2);
        due("good", x.add(LOW, 0, 0, 1, 1, 1), -2);
        due("x1 above x2", x.add(0, 2, 0, 1, 1, 1), -2);
        due("y1 above y2", x.add(0, 0, 2, 1, 1, 1), -2);
        due("x1 below 0", x.add(0, -1, 0, 1, 1, 1), -2);
        due("y1 below 0", x.add(0, 0, -1, 1, 1, 1), -2);
        due("x2 is W", x.add(0, 0, 0, 10, 1, 1), -2);
        due("y2 is H", x.add(0, 0, 0, 1, 10, 1), -2);
        due("far", x.add(0, LOW, LOW, HIGH, HIGH, 1), -2);
        due("v 0", x.add(0, 0, 0, 1, 1, 0), -3);
        due("v above", x.add(0, 0, 0, 1, 1, 1_000_000_001), -3);
        due("v below", x.add(0, 0, 0, 1, 1, -1_000_000_001), -3);
        due("v least int", x.add(0, 0, 0, 1, 1, LOW), -3);
        due("-2 is ahead of -3", x.add(0, 0, 0, 10, 1, 0), -2);
        due("v greatest is sound", x.add(0, 0, 0, 1, 1, 1_000_000_000), -7);
        due("v least is sound", x.add(0, 0, 0, 1, 1, -1_000_000_000), -5);
        due("refused change nothing", x.sum(-1, 0, 0, 9, 9), 22);
        due("nor stand", x.count(4), 3);
    }

    private static void addOrder() {
        StockGrid x = world(10, 10, 100);
        due("up to CAP", x.add(0, 0, 0, 9, 9, 60), 6000);
        due("up to CAP by another", x.add(1, 3, 3, 3, 3, 40), 40);
        due("one above", x.add(2, 3, 3, 4, 4, 1), -7);
        due("beside it", x.add(2, 4, 4, 4, 4, 1), 1);
        due("less in some", x.add(1, 3, 3, 4, 4, -1), -5);
        x.zone(0, 5, 5, 6, 6, 300);
        due("ZONE up to its LIMIT", x.add(1, 6, 6, 7, 7, 40), 200);
        due("one more: -7 ahead of -9", x.add(1, 6, 6, 6, 6, 1), -7);
        due("-9", x.add(1, 5, 5, 5, 5, 21), -9);
        due("the rest of it", x.add(1, 5, 5, 5, 5, 20), 220);
        due("nothing more", x.add(2, 6, 5, 6, 5, 1), -9);
        due("less is no matter", x.add(1, 5, 5, 5, 5, -20), 200);
        due("outside is no matter", x.add(1, 7, 5, 9, 5, 1), 203);
        StockGrid z = world(10, 10, 100);
        z.add(0, 0, 0, 0, 0, 50);
        z.begin();
        z.add(0, 0, 0, 0, 0, -50);
        z.zone(1, 0, 0, 1, 0, 10);
        z.cancel();
        due("ZONE has more by what was cancelled", z.zoneAt(1, 5), 0);
        due("less of it is sound", z.add(0, 0, 0, 0, 0, -1), 49);
        due("what it does not get is sound", z.add(0, 0, 1, 1, 1, 5), 59);
        due("what it gets is not", z.add(0, 0, 0, 9, 9, 1), -9);
    }

    private static void addTotals() {
        StockGrid x = world(10_000, 10_000, 1_000_000_000_000L);
        for (int i = 1; i <= 30; i++) {
            due("add " + i, x.add(1, 0, 0, 9_999, 9_999, 1_000_000_000), 100_000_000_000_000_000L * i);
        }
        due("all", x.sum(1, 0, 0, 9_999, 9_999), TOP);
        due("one more", x.add(1, 5, 5, 5, 5, 1), -6);
        due("ahead of -4 even", x.add(1, 0, 0, 9_999, 9_999, 1_000_000_000), -6);
        x.zone(0, 5, 5, 5, 5, 30_000_000_000L);
        due("-9 ahead of -6", x.add(1, 5, 5, 5, 5, 1), -9);
        for (int i = 1; i <= 30; i++) {
            x.add(0, 6, 0, 9_999, 9_999, 1_000_000_000);
            x.add(2, 6, 0, 9_999, 9_999, 1_000_000_000);
        }
        due("all three", x.sum(-1, 0, 0, 9_999, 9_999), TOP + 2 * (TOP - TOP / 10_000 * 6));
        due("less is sound", x.add(1, 9_999, 9_999, 9_999, 9_999, -2), TOP - 2);
        due("up to it", x.add(1, 0, 0, 0, 1, 1), TOP);
        due("move takes it along", x.move(1, 0, 0, 9_998, 9_999, 1, 0), TOP - 300_000_000_000_000L + 2);
        due("share upper", x.share(1, 0, 0, 9_999, 9_999, 0), 1);
        due("share lower", x.share(1, 0, 0, 9_999, 9_999, 1), 1);
        due("find last", x.find(1, 0, TOP), 99_999_999);
        due("pick all", x.pick(1, 0, 0, 9_999, 9_999, TOP), 99_999_999);
        due("nothing is left", x.sum(1, 0, 0, 9_999, 9_999), 0);
        StockGrid c = world(1, 1, 1_000_000_000_000L);
        for (int i = 0; i < 400; i++) {
            c.add(i % 3, 0, 0, 0, 0, 1_000_000_000);
        }
        due("a cell's many", c.at(-1, 0, 0), 400_000_000_000L);
    }

    private static void addBorders() {
        StockGrid x = world(200, 200, 100);
        for (int i = 0; i < 23; i++) {
            x.add(0, 2 * i + 1, 0, 2 * i + 1, 199, 1);
        }
        due("47 borders", x.borders(0, 0), 47);
        due("two more", x.add(0, 100, 0, 110, 199, 1), -4);
        due("refused: none comes", x.borders(0, 0), 47);
        due("-5 is ahead of -4", x.add(0, 100, 0, 110, 199, -1), -5);
        due("-7 is ahead of -4", x.add(0, 100, 0, 110, 199, 101), -7);
        x.zone(0, 100, 0, 120, 10, 5);
        due("-9 is ahead of -4", x.add(0, 100, 0, 110, 199, 1), -9);
        due("W is none", x.add(0, 100, 5, 199, 5, 1), -9);
        due("one more, up to W", x.add(0, 150, 5, 199, 5, 1), 4650);
        due("48 borders", x.borders(0, 0), 48);
        due("no more", x.add(0, 160, 5, 199, 5, 1), -4);
        due("those that are there", x.add(0, 1, 5, 45, 5, 1), 4695);
        due("down too", x.borders(1, 0), 3);
        StockGrid y = world(200, 200, 100);
        for (int i = 0; i < 23; i++) {
            y.add(0, 0, 2 * i + 1, 199, 2 * i + 1, 1);
        }
        due("two more down", y.add(0, 0, 100, 199, 110, 1), -4);
        due("one more down", y.add(0, 0, 100, 199, 199, 1), 24_600);
        due("48 borders down", y.borders(1, 0), 48);
    }

    private static void pick() {
        StockGrid x = world(10, 10, 100);
        x.add(0, 2, 2, 4, 4, 5);
        due("too many", x.pick(0, 0, 0, 9, 9, 46), -5);
        due("too many of the rectangle", x.pick(0, 4, 4, 9, 9, 6), -5);
        due("7: the second cell keeps some", x.pick(0, 0, 0, 9, 9, 7), 23);
        due("first", x.at(0, 2, 2), 0);
        due("second", x.at(0, 3, 2), 3);
        due("third", x.at(0, 4, 2), 5);
        due("all of two cells", x.pick(0, 0, 0, 9, 9, 8), 24);
        due("row is empty", x.sum(0, 0, 2, 9, 2), 0);
        due("of a part", x.pick(0, 3, 0, 4, 9, 12), 43);
        due("beside it", x.at(0, 2, 3), 5);
        due("last keeps some", x.at(0, 3, 4), 3);
        due("all", x.pick(0, 0, 0, 9, 9, 18), 44);
        due("none left", x.sum(0, 0, 0, 9, 9), 0);
        due("none there", x.pick(0, 0, 0, 9, 9, 1), -5);
        due("good", x.pick(3, 0, 0, 9, 9, 1), -2);
        due("NONE", x.pick(-1, 0, 0, 9, 9, 1), -2);
        due("rectangle", x.pick(0, 0, 0, 10, 9, 1), -2);
        due("-2 ahead of -3", x.pick(0, 0, 0, 10, 9, 0), -2);
        due("n 0", x.pick(0, 0, 0, 9, 9, 0), -3);
        due("n below 0", x.pick(0, 0, 0, 9, 9, Long.MIN_VALUE), -3);
        due("n greatest", x.pick(0, 0, 0, 9, 9, TOP), -5);
        due("n above", x.pick(0, 0, 0, 9, 9, TOP + 1), -3);
        due("n far above", x.pick(0, 0, 0, 9, 9, Long.MAX_VALUE), -3);
        due("standing", x.count(4), 5);
    }

    private static void pickBorders() {
        StockGrid x = world(100, 100, 100);
        x.add(0, 0, 0, 99, 99, 1);
        due("no border by all", x.borders(0, 0), 1);
        due("pick", x.pick(0, 10, 20, 50, 60, 42), 2110);
        int[] across = {0, 10, 11, 51, -1};
        int[] down = {0, 20, 21, 22, 61, -1};
        for (int i = 0; i < across.length; i++) {
            due("across " + i, x.border(0, i), across[i]);
        }
        for (int i = 0; i < down.length; i++) {
            due("down " + i, x.border(1, i), down[i]);
        }
        due("none was late", x.borders(0, 1) + x.borders(1, 1), 0);
        due("at the grid's end", x.pick(0, 99, 99, 99, 99, 1), 9999);
        due("99 alone came", x.borders(0, 0), 5);
        due("99", x.border(0, 4), 99);
        StockGrid y = world(100, 100, 100);
        for (int i = 0; i < 22; i++) {
            y.add(0, 2 * i + 1, 0, 2 * i + 1, 99, 1);
        }
        y.add(0, 0, 0, 99, 0, 1);
        due("45 borders", y.borders(0, 0), 45);
        due("four more", y.pick(0, 60, 0, 80, 0, 2), -4);
        due("three more", y.pick(0, 60, 0, 80, 0, 1), 60);
        due("48 borders", y.borders(0, 0), 48);
        due("-5 is ahead of -4", y.pick(0, 65, 0, 70, 1, 7), -5);
        due("-4", y.pick(0, 65, 0, 70, 0, 6), -4);
        due("refused changes nothing", y.sum(0, 65, 0, 70, 0), 6);
    }

    private static void move() {
        StockGrid x = world(10, 10, 100);
        x.add(0, 1, 1, 2, 2, 5);
        x.add(0, 2, 2, 2, 2, 1);
        x.add(1, 1, 1, 1, 1, 9);
        due("one to the right: both have a part", x.move(0, 1, 1, 2, 2, 1, 0), 21);
        due("gave", x.at(0, 1, 1), 0);
        due("gave and got", x.at(0, 2, 2), 5);
        due("got", x.at(0, 3, 1), 5);
        due("got", x.at(0, 3, 2), 6);
        due("other goods stay", x.at(1, 1, 1), 9);
        due("back and up", x.move(0, 2, 1, 3, 2, -2, -1), 21);
        due("got", x.at(0, 1, 1), 6);
        due("got", x.at(0, 0, 0), 5);
        due("upon others", x.move(0, 0, 0, 0, 0, 1, 1), 5);
        due("together", x.at(0, 1, 1), 11);
        due("of none, it stands", x.move(2, 0, 0, 3, 3, 1, 1), 0);
        due("standing", x.count(4), 7);
        due("good", x.move(3, 0, 0, 1, 1, 1, 1), -2);
        due("NONE", x.move(-1, 0, 0, 1, 1, 1, 1), -2);
        due("rectangle", x.move(0, 0, 0, 10, 1, 1, 1), -2);
        due("-2 ahead of -3", x.move(0, 0, 0, 10, 1, 0, 0), -2);
        due("0 and 0", x.move(0, 0, 0, 1, 1, 0, 0), -3);
        due("dx", x.move(0, 0, 0, 1, 1, 10_000, 0), -3);
        due("dx", x.move(0, 0, 0, 1, 1, -10_000, 0), -3);
        due("dy", x.move(0, 0, 0, 1, 1, 0, 10_000), -3);
        due("dy", x.move(0, 0, 0, 1, 1, 0, LOW), -3);
        due("dx", x.move(0, 0, 0, 1, 1, HIGH, 1), -3);
        due("out by one, right", x.move(0, 0, 0, 1, 1, 9, 0), -2);
        due("out by one, left", x.move(0, 0, 0, 1, 1, -1, 0), -2);
        due("out by one, down", x.move(0, 0, 0, 1, 1, 0, 9), -2);
        due("out by one, up", x.move(0, 0, 0, 1, 1, 0, -1), -2);
        due("dx of 9,999 is sound", x.move(0, 0, 0, 1, 1, 9_999, -9_999), -2);
        due("refused change nothing", x.sum(0, 0, 0, 1, 1), 21);
        StockGrid y = world(10_000, 10_000, 100);
        y.add(1, 0, 9_999, 0, 9_999, 7);
        due("corner to corner", y.move(1, 0, 9_999, 0, 9_999, 9_999, -9_999), 7);
        due("there", y.at(1, 9_999, 0), 7);
    }

    private static void moveBorders() {
        StockGrid x = world(100, 100, 100);
        x.add(0, 10, 0, 19, 99, 1);
        x.add(0, 13, 0, 15, 99, 1);
        due("10 13 16 20", x.borders(0, 0), 5);
        due("late", x.borders(0, 1), 2);
        due("move", x.move(0, 10, 0, 16, 99, 40, 0), 1000);
        int[] across = {0, 10, 13, 16, 17, 20, 50, 53, 56, 57, -1};
        for (int i = 0; i < across.length; i++) {
            due("across " + i, x.border(0, i), across[i]);
        }
        due("down", x.borders(1, 0), 1);
        due("late: 17 alone", x.borders(0, 1), 3);
        due("there", x.sum(0, 53, 0, 55, 99), 600);
        due("to the end: W is none", x.move(0, 50, 0, 56, 99, 43, 0), 1000);
        due("93 96 99", x.borders(0, 0), 13);
        StockGrid y = world(100, 100, 2);
        for (int i = 0; i < 11; i++) {
            y.add(0, 2 * i + 1, 0, 2 * i + 1, 99, 1);
        }
        due("23 borders", y.borders(0, 0), 23);
        y.add(0, 40, 0, 41, 99, 2);
        y.add(0, 90, 0, 91, 99, 1);
        due("27 borders", y.borders(0, 0), 27);
        due("22 more", y.move(0, 1, 0, 22, 99, 49, 0), -4);
        due("-4 ahead of -7", y.move(0, 0, 0, 22, 99, 29, 0), -4);
        due("none came", y.borders(0, 0), 27);
        due("21 more", y.move(0, 2, 0, 21, 99, 50, 0), 1000);
        due("48 borders", y.borders(0, 0), 48);
        due("-7", y.move(0, 90, 0, 91, 99, -50, 0), -7);
        due("refused changes nothing", y.sum(0, 90, 0, 91, 99), 200);
    }

    private static void moveZones() {
        StockGrid x = world(20, 20, 10);
        x.add(0, 0, 0, 3, 3, 5);
        x.add(1, 8, 0, 8, 0, 6);
        x.zone(0, 10, 0, 13, 3, 79);
        due("CAP by two goods", x.move(0, 0, 0, 3, 3, 8, 0), -7);
        due("LIMIT", x.move(0, 0, 0, 3, 3, 10, 0), -9);
        due("refused changes nothing", x.sum(0, 0, 0, 3, 3), 80);
        due("nor borders", x.borders(0, 0), 4);
        due("partly in it", x.move(0, 0, 0, 3, 3, 11, 0), 80);
        due("79 less 60", x.zoneAt(0, 5), 19);
        due("-7 is ahead of -9", x.add(1, 4, 0, 4, 0, 8) + x.move(1, 4, 0, 4, 0, 8, 0), 14 - 7);
        due("within the ZONE is no matter", x.move(0, 11, 0, 12, 3, -1, 0), 40);
        StockGrid y = world(20, 20, 100);
        y.add(0, 0, 0, 3, 0, 10);
        y.begin();
        y.add(0, 0, 0, 3, 0, -10);
        y.zone(0, 0, 0, 3, 0, 5);
        y.cancel();
        due("within one that has too much", y.move(0, 0, 0, 0, 0, 1, 0), 10);
        due("out of it", y.move(0, 1, 0, 1, 0, 0, 1), 20);
        due("into it", y.move(0, 1, 1, 1, 1, 0, -1), -9);
    }

    private static void level() {
        StockGrid x = world(10, 10, 100);
        x.add(0, 1, 1, 1, 1, 50);
        x.add(1, 1, 1, 1, 1, 7);
        due("50 by 12 cells", x.level(0, 1, 1, 4, 3), 4);
        due("first", x.at(0, 1, 1), 5);
        due("second", x.at(0, 2, 1), 5);
        due("third", x.at(0, 3, 1), 4);
        due("last", x.at(0, 4, 3), 4);
        due("all", x.sum(0, 0, 0, 9, 9), 50);
        due("other goods stay", x.at(1, 1, 1), 7);
        due("even", x.level(1, 1, 1, 7, 1), 1);
        due("each", x.bound(1, 1, 1, 7, 1, 0), 1);
        due("of none", x.level(2, 0, 0, 9, 9), 0);
        due("5 in 100 cells", x.level(0, 1, 1, 1, 1), 5);
        due("standing", x.count(4), 6);
        due("good", x.level(3, 0, 0, 1, 1), -2);
        due("NONE", x.level(-1, 0, 0, 1, 1), -2);
        due("rectangle", x.level(0, 0, 5, 1, 4), -2);
        due("rectangle", x.level(0, 0, 0, HIGH, 1), -2);
    }

    private static void levelBorders() {
        StockGrid x = world(100, 100, 100);
        x.add(0, 0, 0, 99, 99, 1);
        due("even: those of the rectangle", x.level(0, 10, 20, 29, 39), 1);
        due("10 30", x.borders(0, 0), 3);
        due("20 40", x.borders(1, 0), 3);
        x.add(0, 10, 20, 10, 20, 45);
        due("45 over: last is (14, 22)", x.level(0, 10, 20, 29, 39), 1);
        int[] across = {0, 10, 11, 15, 30, -1};
        int[] down = {0, 20, 21, 22, 23, 40, -1};
        for (int i = 0; i < across.length; i++) {
            due("across " + i, x.border(0, i), across[i]);
        }
        for (int i = 0; i < down.length; i++) {
            due("down " + i, x.border(1, i), down[i]);
        }
        due("late", x.borders(0, 1), 2);
        due("(14, 22)", x.at(0, 14, 22), 2);
        due("(15, 22)", x.at(0, 15, 22), 1);
        due("(29, 21)", x.at(0, 29, 21), 2);
        StockGrid y = world(50, 50, 100);
        y.add(0, 0, 0, 0, 0, 100);
        due("whole rows: x and 1 is W", y.level(0, 0, 0, 49, 9), 0);
        due("0 1", y.borders(0, 0), 2);
        due("0 1 2 10", y.borders(1, 0), 4);
        due("two rows", y.atLeast(0, 0, 0, 49, 49, 1), 100);
    }

    private static void levelRefused() {
        StockGrid x = world(100, 100, 10);
        for (int i = 0; i < 23; i++) {
            x.add(0, 2 * i + 1, 0, 2 * i + 1, 99, 1);
        }
        due("47 borders", x.borders(0, 0), 47);
        due("-4", x.level(0, 60, 0, 70, 99), -4);
        due("one more", x.level(0, 60, 0, 99, 99), 0);
        due("no border is free for what is over", x.level(0, 5, 0, 5, 0), 1);
        due("-4 by what is over", x.level(0, 60, 50, 99, 50) + 100 * x.level(0, 3, 0, 99, 99), -400);
        StockGrid y = world(10, 10, 10);
        y.add(0, 0, 0, 0, 0, 10);
        y.add(1, 1, 0, 1, 0, 6);
        due("CAP", y.level(0, 0, 0, 1, 0), -7);
        due("refused changes nothing", y.at(0, 0, 0), 10);
        due("standing", y.count(4), 2);
        y.add(1, 1, 0, 1, 0, -1);
        y.zone(5, 1, 0, 1, 0, 9);
        due("LIMIT", y.level(0, 0, 0, 1, 0), -9);
        y.zone(5, 1, 0, 1, 0, 10);
        due("up to both", y.level(0, 0, 0, 1, 0), 5);
        y.add(1, 1, 0, 1, 0, -5);
        y.begin();
        y.add(0, 0, 0, 1, 0, -5);
        y.zone(5, 0, 0, 9, 0, 3);
        y.cancel();
        due("a ZONE that has no more by it is no matter", y.level(0, 0, 0, 9, 0), 1);
    }

    private static void zone() {
        StockGrid x = world(10, 10, 100);
        x.add(0, 0, 0, 4, 4, 2);
        x.add(2, 0, 0, 4, 4, 3);
        due("units of all", x.zone(0, 4, 4, 9, 9, 1000), 5);
        due("as many as there are", x.zone(5, 0, 0, 4, 4, 125), 125);
        due("one less", x.zone(4, 0, 0, 4, 4, 124), -9);
        due("refused: none", x.zoneAt(4, 4), -1);
        due("refused: the old one stays", x.zone(5, 0, 0, 4, 4, 1), -9);
        due("it", x.zoneAt(5, 4), 125);
        due("LIMIT 0", x.zone(3, 5, 5, 6, 6, 0), 0);
        due("nothing comes in", x.add(1, 6, 6, 6, 6, 1), -9);
        due("another one in its place", x.zone(3, 5, 5, 6, 6, 1), 0);
        due("one comes in", x.add(1, 6, 6, 6, 6, 1), 1);
        due("greatest LIMIT", x.zone(2, 0, 0, 9, 9, TOP), 126);
        due("zone 6", x.zone(6, 0, 0, 1, 1, 5), -2);
        due("zone -1", x.zone(-1, 0, 0, 1, 1, 5), -2);
        due("rectangle", x.zone(0, 0, 0, 1, 10, 5), -2);
        due("-2 ahead of -3", x.zone(0, 0, 0, 1, 10, -5), -2);
        due("LIMIT below", x.zone(0, 5, 5, 5, 5, -1), -3);
        due("LIMIT above", x.zone(0, 5, 5, 5, 5, TOP + 1), -3);
        due("-3 ahead of -9", x.zone(0, 0, 0, 4, 4, -1), -3);
        due("no ACT", x.count(4), 3);
        due("no border", x.borders(0, 0), 4);
        x.begin();
        x.zone(1, 9, 9, 9, 9, 4);
        due("cancel", x.cancel(), 0);
        due("it stays", x.zoneAt(1, 4), 4);
    }

    private static void zoneAt() {
        StockGrid x = world(10, 10, 100);
        x.add(0, 0, 0, 9, 9, 1);
        due("none", x.zoneAt(0, 0), -1);
        x.zone(0, 1, 2, 3, 4, 50);
        long[] want = {1, 2, 3, 4, 50, 41};
        for (int what = 0; what < 6; what++) {
            due("what " + what, x.zoneAt(0, what), want[what]);
        }
        x.add(1, 1, 2, 1, 2, 41);
        due("has its LIMIT", x.zoneAt(0, 5), 0);
        due("what 6", x.zoneAt(0, 6), -2);
        due("what -1", x.zoneAt(0, -1), -2);
        due("zone 6", x.zoneAt(6, 0), -2);
        due("zone -1", x.zoneAt(-1, 0), -2);
        due("zone", x.zoneAt(LOW, 0), -2);
        due("-2 ahead of NONE", x.zoneAt(1, 6), -2);
    }

    private static void begin() {
        StockGrid x = world(5, 5, 100);
        for (int i = 1; i <= 8; i++) {
            due("begin " + i, x.begin(), i);
        }
        due("ninth", x.begin(), -4);
        due("open", x.count(3), 8);
        x.commit();
        due("eighth again", x.begin(), 8);
    }

    private static void commit() {
        StockGrid x = world(5, 5, 100);
        due("nothing open", x.commit(), -8);
        x.begin();
        x.add(0, 0, 0, 0, 0, 1);
        x.begin();
        x.add(0, 1, 1, 1, 1, 2);
        due("inner", x.commit(), 1);
        due("it belongs to that around it", x.before(0, 0, 0, 0, 4, 4), 0);
        due("cancelled by that", x.cancel(), 2);
        due("all is gone", x.sum(0, 0, 0, 4, 4), 0);
        x.begin();
        x.add(0, 0, 0, 0, 0, 1);
        due("outermost", x.commit(), 0);
        due("for good", x.cancel(), -8);
        due("it stands", x.sum(0, 0, 0, 4, 4), 1);
        due("told", x.count(4), 1);
    }

    private static void cancel() {
        StockGrid x = world(30, 30, 100);
        due("nothing open", x.cancel(), -8);
        x.add(0, 0, 0, 9, 9, 4);
        x.begin();
        x.begin();
        x.add(1, 3, 3, 20, 20, 5);
        x.pick(0, 2, 2, 5, 5, 10);
        x.move(0, 5, 5, 9, 9, 7, 7);
        x.level(1, 0, 0, 9, 9);
        due("none of a refused one", x.add(2, 0, 0, 0, 0, -1), -5);
        due("four", x.cancel(), 4);
        due("open", x.count(3), 1);
        due("good 0 is as ahead", x.sum(0, 0, 0, 9, 9), 400);
        due("good 0 is as ahead", x.bound(0, 0, 0, 9, 9, 0), 4);
        due("good 0 elsewhere", x.sum(0, 0, 0, 29, 29), 400);
        due("good 1 is as ahead", x.sum(1, 0, 0, 29, 29), 0);
        due("borders stay", x.borders(0, 0), 11);
        due("standing", x.count(4), 1);
        x.add(2, 1, 1, 1, 1, 1);
        due("one", x.cancel(), 1);
        due("none open", x.cancel(), -8);
        x.begin();
        due("nothing was done", x.cancel(), 0);
    }

    private static void cancelForgotten() {
        StockGrid x = world(3, 3, 1000);
        for (int i = 1; i <= 5; i++) {
            x.add(0, 0, 0, 0, 0, i);
        }
        x.begin();
        for (int i = 1; i <= 38; i++) {
            x.add(1, 0, 0, 0, 0, i);
        }
        due("40 told", x.count(4), 40);
        due("eldest told", x.act(0, 6), 4);
        due("38", x.cancel(), 38);
        due("what was forgotten does not come back", x.count(4), 2);
        due("the first of them", x.act(0, 6), 4);
        due("what it did stands", x.at(0, 0, 0), 15);
        x.begin();
        for (int i = 1; i <= 50; i++) {
            x.add(2, 1, 1, 1, 1, 1);
        }
        x.begin();
        x.add(2, 1, 1, 1, 1, 1);
        x.commit();
        due("51, those that are forgotten too", x.cancel(), 51);
        due("none told", x.count(4), 0);
        due("all as ahead", x.at(-1, 1, 1), 0);
        due("all as ahead", x.at(-1, 0, 0), 15);
    }

    private static void feed() {
        StockGrid x = new StockGrid();
        for (int i = 1; i <= 25; i++) {
            due("feed " + i, x.feed(0x20202020, 0x20202020, 0x20202020, 0x20202020, 0x20202020), 20 * i);
        }
        due("above 500", x.feed(0, 0, 0, 0, 0), -4);
        due("it stays", x.count(5), 500);
        due("all blank", x.run(500), 0);
        due("again", x.feed(0x62656769, 0x6E3B6265, 0x67696E20, 0x3B20FF80, 0x80FFFFFF), 20);
        due("highest first", x.run(14), 2);
        due("open", x.count(3), 2);
        x.feed(0x62656769, 0x6E3B6265, 0x67696E20, 0x3B20FF80, 0x80FFFFFF);
        due("high bytes", x.run(20), -31);
        due("place", x.fault(1), 14);
    }

    private static void run() {
        StockGrid x = world(20, 20, 1000);
        put(x, "add 0 1 1 2 2 5;");
        due("above what there is", x.run(21), -3);
        due("below 0", x.run(-1), -3);
        due("least", x.run(LOW), -3);
        due("the tape stays", x.count(5), 20);
        due("its first bytes alone", x.run(16), 1);
        due("the tape is empty", x.count(5), 0);
        due("it was done", x.sum(0, 0, 0, 19, 19), 20);
        due("it stands", x.act(0, 6), 5);
        due("no byte", x.run(0), 0);
        due("many", tell(x, "begin;pick 0 0 0 19 19 7;begin; add 2 0 0 0 0 - 4;"), 3);
        due("the code", x.fault(2), -5);
        due("both are open", x.count(3), 2);
        due("picked", x.sum(0, 0, 0, 19, 19), 13);
        due("cancel and cancel", tell(x, "cancel;cancel;cancel;begin;"), 2);
        due("the code", x.fault(2), -8);
        due("nothing behind a refused one", x.count(3), 0);
        due("as ahead", x.sum(0, 0, 0, 19, 19), 20);
        due("by hand too", tell(x, "begin;add 0 0 0 0 0 1;add 0 0 0 0 0 1;"), 3);
        due("cancelled by hand", x.cancel(), 2);
        put(x, "begin;begin;");
        due("no byte of some", x.run(0), 0);
        due("the tape is empty all the same", x.count(5), 0);
        due("none was done", x.count(3), 0);
        due("minus", tell(x, "add 0 1 1 2 2-1 ;add0 1 1 2 2-1;"), 2);
        due("less", x.sum(0, 0, 0, 19, 19), 12);
    }

    private static void runRefused() {
        StockGrid x = world(20, 20, 10);
        due("-2: the grid", tell(x, "add 0 0 0 20 0 1;"), 0);
        due("code", x.fault(2), -2);
        due("-2: x1 above x2", tell(x, "begin;pick 0 5 0 4 0 1;"), 1);
        due("code", x.fault(2), -2);
        due("-7", tell(x, "add 0 0 0 9 0 11;"), 0);
        due("code", x.fault(2), -7);
        x.zone(0, 0, 0, 9, 9, 3);
        due("-9", tell(x, "add 0 0 0 0 0 3;add 1 0 0 0 0 1;"), 1);
        due("code", x.fault(2), -9);
        due("-4", tell(x, "begin;begin;begin;begin;begin;begin;begin;begin;begin;"), 7);
        due("code", x.fault(2), -4);
        due("all sound", tell(x, "commit;"), 1);
        due("no code", x.fault(2), 0);
        due("a fault", tell(x, "begin;x"), -31);
        due("none was done", x.count(3), 7);
        due("no code", x.fault(2), 0);
    }

    private static void fault() {
        StockGrid x = new StockGrid();
        due("ahead of any, 0", x.fault(0), 0);
        due("ahead of any, 1", x.fault(1), -1);
        due("ahead of any, 2", x.fault(2), 0);
        due("3", x.fault(3), -1);
        due("-1", x.fault(-1), -1);
        due("least", x.fault(LOW), -1);
        tell(x, "  ?");
        due("fault", x.fault(0), 1);
        due("place", x.fault(1), 2);
        x.run(-1);
        x.run(1);
        due("a refused run is none", x.fault(1), 2);
        tell(x, "cancel;");
        due("no fault", x.fault(0), 0);
        due("no place", x.fault(1), -1);
        due("code", x.fault(2), -8);
        due("run(0)", x.run(0), 0);
        due("no code any more", x.fault(2), 0);
    }

    private static void textFaults() {
        faulty("x", 1, 0);
        faulty("7", 1, 0);
        faulty(";", 1, 0);
        faulty("-", 1, 0);
        faulty("begin", 1, 5);
        faulty("begin  ", 1, 7);
        faulty("  begin;;", 1, 8);
        faulty("begins;", 1, 0);
        faulty("begi;", 1, 0);
        faulty("begin5;", 1, 5);
        faulty("begin begin;", 1, 6);
        faulty("beginbegin;", 1, 0);
        faulty("be gin;", 1, 0);
        faulty("Begin;", 1, 0);
        faulty("begin;\0", 1, 6);
        faulty("begin;\n", 1, 6);
        faulty("begin;\u0080", 1, 6);
        faulty("begin;\u00A0", 1, 6);
        faulty("move 0 0 0 1 1 1;", 1, 0);
        faulty("add", 1, 3);
        faulty("add;", 1, 3);
        faulty("add -0 0 0 0 0 1;", 1, 4);
        faulty("add 0 0 0 0 1;", 1, 13);
        faulty("add 0 0 0 0 0 1", 1, 15);
        faulty("add 0 0 0 0 0 1 2;", 1, 16);
        faulty("add 0 0 0 0 0 - - 1;", 1, 16);
        faulty("add 0 0 0 0 0 -", 1, 15);
        faulty("add 0 0 0 0 0 +1;", 1, 14);
        faulty("add 0,0 0 0 0 1;", 1, 5);
        faulty("pick 0 0 0 0 0 -1;", 1, 15);
        faulty("pick 0 0 0 0 0;", 1, 14);
        faulty("cancel 99999999999999999999;", 1, 7);
        faulty("99999999999999999999", 1, 0);
    }

    private static void textNumbers() {
        faulty("add 3 0 0 0 0 1;", 2, 4);
        faulty("add 0 10000 0 0 0 1;", 2, 6);
        faulty("add 0 0 10000 0 0 1;", 2, 8);
        faulty("add 0 0 0 10000 0 1;", 2, 10);
        faulty("add 0 0 0 0 10000 1;", 2, 12);
        faulty("add 0 0 0 0 0 0;", 2, 14);
        faulty("add 0 0 0 0 0 -0;", 2, 15);
        faulty("add 0 0 0 0 0 1000000001;", 2, 14);
        faulty("add 0 0 0 0 0 - 1000000001;", 2, 16);
        faulty("add 0 0 0 0 0 00000000000000000001;", 2, 14);
        faulty("add 00000000000000000000 0 0 0 0 1;", 2, 4);
        faulty("pick 0 0 0 0 0 0;", 2, 15);
        faulty("pick 0 0 0 0 0 3000000000000000001;", 2, 15);
        faulty("pick 0 0 0 0 0 9999999999999999999;", 2, 15);
        faulty("pick 0 0 0 0 0 9223372036854775808;", 2, 15);
        faulty("pick 0 0 0 0 0 10000000000000000000;", 2, 15);
        faulty("pick 0 0 0 0 0 99999999999999999999999999999999999999999;", 2, 15);
        faulty("pick 5 0 0 0 0 0", 2, 5);
        faulty("add 0 0 0 0 0 0 x", 2, 14);
        sound("add 0000000000000000002 0 0 0000 00009 0000000001000;", 1);
        sound("add 0 0 0 0 0 0000000000000000001;", 1);
        sound("add 0 0 0 0 0 1000000000;", 0);
        sound("add 0 0 0 9999 9999 1;", 0);
        sound("pick 0 0 0 0 0 3000000000000000000;", 0);
        sound("", 0);
        sound("    ", 0);
        sound("begin;commit ;  begin ;cancel;", 4);
        sound("add0 0 0 1 1 5;pick 0 0 0 1 1 20;", 2);
        sound("add 1 2 3 4 5 - 6;", 0);
    }

    private static void textActs() {
        String thirty = "begin;cancel;".repeat(15);
        sound(thirty, 30);
        faulty(thirty + "begin;", 3, 195);
        faulty(thirty + "  add x", 3, 197);
        faulty(thirty + "begin", 3, 195);
        faulty(thirty + " x", 1, 196);
        faulty(thirty + "7", 1, 195);
        faulty(thirty + ";", 1, 195);
        sound(thirty + "   ", 30);
    }

    private static void sum() {
        StockGrid x = world(10, 8, 100);
        x.add(0, 0, 0, 4, 4, 1);
        x.add(1, 4, 4, 9, 7, 10);
        x.add(2, 4, 0, 4, 7, 20);
        due("0", x.sum(0, 0, 0, 9, 7), 25);
        due("part", x.sum(0, 3, 3, 8, 7), 4);
        due("1", x.sum(1, 4, 4, 5, 5), 40);
        due("all", x.sum(-1, 4, 4, 4, 4), 31);
        due("all", x.sum(-1, 0, 0, 9, 7), 25 + 240 + 160);
        due("good", x.sum(3, 0, 0, 0, 0), -2);
        due("good", x.sum(-2, 0, 0, 0, 0), -2);
        due("x2", x.sum(0, 0, 0, 10, 0), -2);
        due("y2", x.sum(0, 0, 0, 0, 8), -2);
        due("x1", x.sum(0, -1, 0, 0, 0), -2);
        due("turned", x.sum(0, 5, 5, 4, 5), -2);
    }

    private static void at() {
        StockGrid x = world(10, 8, 100);
        x.add(0, 3, 2, 5, 4, 7);
        x.add(2, 5, 4, 9, 7, 1);
        due("corner", x.at(0, 3, 2), 7);
        due("corner", x.at(0, 5, 4), 7);
        due("outside", x.at(0, 6, 4), 0);
        due("outside", x.at(0, 5, 5), 0);
        due("all", x.at(-1, 5, 4), 8);
        due("all", x.at(-1, 9, 7), 1);
        due("x", x.at(0, 10, 0), -2);
        due("y", x.at(0, 0, 8), -2);
        due("x", x.at(0, -1, 0), -2);
        due("y", x.at(0, 0, HIGH), -2);
        due("good", x.at(3, 0, 0), -2);
        due("good", x.at(LOW, 0, 0), -2);
    }

    private static void bound() {
        StockGrid x = world(10, 10, 100);
        x.add(0, 0, 0, 9, 9, 3);
        x.add(0, 5, 5, 5, 5, -2);
        x.add(1, 0, 0, 0, 0, 9);
        due("least", x.bound(0, 0, 0, 9, 9, 0), 1);
        due("most", x.bound(0, 0, 0, 9, 9, 1), 3);
        due("least elsewhere", x.bound(0, 0, 0, 4, 9, 0), 3);
        due("most of that cell", x.bound(0, 5, 5, 5, 5, 1), 1);
        due("most of all", x.bound(-1, 0, 0, 9, 9, 1), 12);
        due("least of all", x.bound(-1, 0, 0, 9, 9, 0), 1);
        due("least of 1", x.bound(1, 0, 0, 9, 9, 0), 0);
        due("what", x.bound(0, 0, 0, 9, 9, 2), -2);
        due("what", x.bound(0, 0, 0, 9, 9, -1), -2);
        due("good", x.bound(3, 0, 0, 9, 9, 0), -2);
        due("rectangle", x.bound(0, 0, 0, 10, 9, 0), -2);
    }

    private static void empty() {
        StockGrid x = world(10, 10, 100);
        due("all", x.empty(0, 0, 9, 9), 100);
        x.add(0, 0, 0, 4, 4, 1);
        x.add(1, 3, 3, 6, 6, 1);
        due("less those of either", x.empty(0, 0, 9, 9), 100 - 25 - 16 + 4);
        due("part", x.empty(4, 4, 9, 4), 3);
        due("none", x.empty(3, 3, 6, 6), 0);
        x.pick(1, 0, 0, 9, 9, 16);
        due("again", x.empty(3, 3, 6, 6), 12);
        due("rectangle", x.empty(0, 0, 10, 9), -2);
        due("rectangle", x.empty(1, 0, 0, 9), -2);
    }

    private static void share() {
        StockGrid x = world(10, 10, 100);
        due("none: 0", x.share(0, 0, 0, 9, 9, 0), 0);
        due("none: by 1", x.share(0, 0, 0, 9, 9, 1), 1);
        x.add(0, 0, 0, 3, 2, 5);
        due("20 of 60", x.share(0, 0, 0, 3, 0, 0), 1);
        due("by 3", x.share(0, 0, 0, 3, 0, 1), 3);
        due("25 of 60", x.share(0, 3, 0, 9, 9, 0) * 100 + x.share(0, 3, 0, 9, 9, 1), 104);
        due("none of some: 0", x.share(0, 5, 5, 9, 9, 0), 0);
        due("none of some: by 1", x.share(0, 5, 5, 9, 9, 1), 1);
        due("all: 1", x.share(0, 0, 0, 9, 9, 0), 1);
        due("all: by 1", x.share(0, 0, 0, 9, 9, 1), 1);
        due("what", x.share(0, 0, 0, 9, 9, 2), -2);
        due("what", x.share(0, 0, 0, 9, 9, -1), -2);
        due("NONE", x.share(-1, 0, 0, 9, 9, 0), -2);
        due("good", x.share(3, 0, 0, 9, 9, 0), -2);
        due("rectangle", x.share(0, 0, 0, 9, 10, 0), -2);
    }

    private static void atLeast() {
        StockGrid x = world(10, 10, 100);
        x.add(0, 0, 0, 4, 4, 5);
        x.add(1, 4, 4, 9, 9, 3);
        due("0: each", x.atLeast(0, 0, 0, 9, 9, 0), 100);
        due("1", x.atLeast(0, 0, 0, 9, 9, 1), 25);
        due("5", x.atLeast(0, 0, 0, 9, 9, 5), 25);
        due("6", x.atLeast(0, 0, 0, 9, 9, 6), 0);
        due("8 of all", x.atLeast(-1, 0, 0, 9, 9, 8), 1);
        due("9 of all", x.atLeast(-1, 0, 0, 9, 9, 9), 0);
        due("4 of all", x.atLeast(-1, 3, 3, 9, 9, 4), 4);
        due("3 of all", x.atLeast(-1, 3, 3, 9, 9, 3), 3 + 36);
        due("far", x.atLeast(0, 0, 0, 9, 9, Long.MAX_VALUE), 0);
        due("below 0", x.atLeast(0, 0, 0, 9, 9, -1), -3);
        due("least", x.atLeast(0, 0, 0, 9, 9, Long.MIN_VALUE), -3);
        due("-2 ahead", x.atLeast(0, 0, 0, 9, 10, -1), -2);
        due("good", x.atLeast(3, 0, 0, 9, 9, 0), -2);
    }

    private static void value() {
        StockGrid x = world(10, 10, 100);
        x.add(0, 0, 0, 9, 0, 5);
        x.add(0, 0, 1, 9, 1, 2);
        x.add(1, 0, 0, 4, 0, 1);
        due("least", x.value(0, 0, 0, 9, 9, 1), 0);
        due("80th", x.value(0, 0, 0, 9, 9, 80), 0);
        due("81st", x.value(0, 0, 0, 9, 9, 81), 2);
        due("90th", x.value(0, 0, 0, 9, 9, 90), 2);
        due("91st", x.value(0, 0, 0, 9, 9, 91), 5);
        due("100th", x.value(0, 0, 0, 9, 9, 100), 5);
        due("101st", x.value(0, 0, 0, 9, 9, 101), -1);
        due("far", x.value(0, 0, 0, 9, 9, Long.MAX_VALUE), -1);
        due("95th of all", x.value(-1, 0, 0, 9, 9, 95), 5);
        due("96th of all", x.value(-1, 0, 0, 9, 9, 96), 6);
        due("of a part", x.value(0, 2, 0, 3, 1, 2), 2);
        due("of a part", x.value(0, 2, 0, 3, 1, 3), 5);
        due("k 0", x.value(0, 0, 0, 9, 9, 0), -3);
        due("k", x.value(0, 0, 0, 9, 9, Long.MIN_VALUE), -3);
        due("-2 ahead", x.value(0, 0, 0, 10, 9, 0), -2);
        due("good", x.value(3, 0, 0, 9, 9, 1), -2);
    }

    private static void hole() {
        StockGrid x = world(10, 6, 100);
        long[] all = {0, 0, 9, 5, 60};
        for (int what = 0; what < 5; what++) {
            due("all " + what, x.hole(what), all[what]);
        }
        x.add(0, 4, 0, 5, 5, 1);
        long[] left = {0, 0, 3, 5, 24};
        for (int what = 0; what < 5; what++) {
            due("of two like ones the first by X1, " + what, x.hole(what), left[what]);
        }
        x.add(1, 0, 0, 9, 5, 1);
        due("none", x.hole(0), -1);
        due("none", x.hole(4), -1);
        due("-2 ahead of NONE", x.hole(5), -2);
        due("what", x.hole(-1), -2);
        x.add(1, 3, 5, 3, 5, -1);
        due("one cell", x.hole(4), 1);
        due("x1", x.hole(0), 3);
        due("y1", x.hole(1), 5);
        StockGrid y = world(4, 4, 100);
        y.add(0, 0, 0, 3, 3, 1);
        y.add(0, 0, 2, 3, 2, -1);
        due("a row", y.hole(1), 2);
        due("its cells", y.hole(4), 4);
        y.add(0, 2, 0, 2, 1, -1);
        y.add(0, 2, 3, 2, 3, -1);
        due("a cross: the first by Y1", y.hole(1), 0);
        due("its X1", y.hole(0), 2);
        due("its Y2", y.hole(3), 3);
        due("its cells", y.hole(4), 4);
        StockGrid z = world(4, 4, 100);
        z.add(0, 0, 0, 3, 3, 1);
        z.add(0, 0, 0, 3, 0, -1);
        z.add(0, 0, 1, 1, 1, -1);
        due("4 by 1 and 2 by 2 from one corner: the first by Y2", z.hole(3), 0);
        due("its X2", z.hole(2), 3);
    }

    private static void before() {
        StockGrid x = world(10, 10, 100);
        x.add(0, 0, 0, 9, 9, 1);
        x.begin();
        x.add(0, 2, 2, 5, 5, 3);
        x.begin();
        x.move(0, 0, 0, 3, 3, 6, 6);
        due("0", x.before(0, 0, 0, 0, 9, 9), 100);
        due("1", x.before(1, 0, 0, 0, 9, 9), 148);
        due("1, part", x.before(1, 0, 1, 1, 3, 3), 9 + 12);
        due("0, part", x.before(0, 0, 1, 1, 3, 3), 9);
        due("of another", x.before(0, 1, 0, 0, 9, 9), 0);
        due("i", x.before(2, 0, 0, 0, 9, 9), -2);
        due("i", x.before(-1, 0, 0, 0, 9, 9), -2);
        due("i", x.before(LOW, 0, 0, 0, 9, 9), -2);
        due("NONE", x.before(0, -1, 0, 0, 9, 9), -2);
        due("good", x.before(0, 3, 0, 0, 9, 9), -2);
        due("rectangle", x.before(0, 0, 0, 0, 9, 10), -2);
        x.commit();
        due("joined", x.before(1, 0, 0, 0, 9, 9), -2);
        due("0 still", x.before(0, 0, 0, 0, 9, 9), 100);
    }

    private static void find() {
        StockGrid x = world(10, 10, 100);
        x.add(0, 2, 3, 4, 6, 2);
        due("first", x.find(0, 0, 1), 32);
        due("second", x.find(0, 0, 2), 32);
        due("third", x.find(0, 0, 3), 33);
        due("second row", x.find(0, 0, 7), 42);
        due("last", x.find(0, 0, 24), 64);
        due("no more", x.find(0, 0, 25), -1);
        due("columns", x.find(0, 1, 3), 42);
        due("columns", x.find(0, 1, 8), 62);
        due("columns, second", x.find(0, 1, 9), 33);
        due("columns, last", x.find(0, 1, 24), 64);
        due("columns, no more", x.find(0, 1, 25), -1);
        due("of another", x.find(1, 0, 1), -1);
        due("far", x.find(0, 0, Long.MAX_VALUE), -1);
        due("k 0", x.find(0, 0, 0), -3);
        due("k", x.find(0, 1, Long.MIN_VALUE), -3);
        due("order", x.find(0, 2, 1), -2);
        due("order", x.find(0, -1, 1), -2);
        due("-2 ahead", x.find(0, 2, 0), -2);
        due("NONE", x.find(-1, 0, 1), -2);
        due("good", x.find(3, 0, 1), -2);
    }

    private static void findIn() {
        StockGrid x = world(10, 10, 100);
        x.add(0, 2, 3, 4, 6, 2);
        due("first", x.findIn(0, 3, 4, 9, 9, 1), 43);
        due("third", x.findIn(0, 3, 4, 9, 9, 3), 44);
        due("next row", x.findIn(0, 3, 4, 9, 9, 5), 53);
        due("last", x.findIn(0, 3, 4, 9, 9, 12), 64);
        due("no more", x.findIn(0, 3, 4, 9, 9, 13), -1);
        due("one cell", x.findIn(0, 4, 5, 4, 5, 2), 54);
        due("one cell, no more", x.findIn(0, 4, 5, 4, 5, 3), -1);
        due("k 0", x.findIn(0, 3, 4, 9, 9, 0), -3);
        due("-2 ahead", x.findIn(0, 3, 4, 10, 9, 0), -2);
        due("NONE", x.findIn(-1, 3, 4, 9, 9, 1), -2);
        due("good", x.findIn(3, 3, 4, 9, 9, 1), -2);
    }

    private static void touched() {
        StockGrid x = world(10, 10, 100);
        x.add(0, 2, 3, 4, 6, 2);
        x.add(0, 3, 3, 3, 6, -2);
        due("one", x.touched(0, 0, 0, 9, 9, 1), 1);
        due("two of one", x.touched(0, 0, 0, 9, 9, 2), 1);
        due("over an empty one", x.touched(0, 0, 0, 9, 9, 3), 2);
        due("next row", x.touched(0, 0, 0, 9, 9, 5), 3);
        due("all", x.touched(0, 0, 0, 9, 9, 16), 8);
        due("fewer", x.touched(0, 0, 0, 9, 9, 17), -1);
        due("far", x.touched(0, 0, 0, 9, 9, Long.MAX_VALUE), -1);
        due("part", x.touched(0, 4, 4, 9, 9, 6), 3);
        due("n 0", x.touched(0, 0, 0, 9, 9, 0), -3);
        due("-2 ahead", x.touched(0, 0, 0, 9, 10, 0), -2);
        due("NONE", x.touched(-1, 0, 0, 9, 9, 1), -2);
        due("nothing was picked", x.sum(0, 0, 0, 9, 9), 16);
    }

    private static void ahead() {
        StockGrid x = world(10, 8, 100);
        x.add(1, 2, 3, 4, 6, 2);
        due("first cell", x.ahead(1, 0, 0, 0), 0);
        due("its own are not", x.ahead(1, 0, 2, 3), 0);
        due("rows", x.ahead(1, 0, 3, 3), 2);
        due("rows", x.ahead(1, 0, 4, 5), 12 + 4);
        due("rows, behind", x.ahead(1, 0, 9, 7), 24);
        due("columns", x.ahead(1, 1, 3, 3), 8);
        due("columns", x.ahead(1, 1, 4, 5), 16 + 4);
        due("columns", x.ahead(1, 1, 2, 0), 0);
        due("columns, behind", x.ahead(1, 1, 9, 7), 24);
        due("order", x.ahead(1, 2, 0, 0), -2);
        due("x", x.ahead(1, 0, 10, 0), -2);
        due("y", x.ahead(1, 0, 0, 8), -2);
        due("x", x.ahead(1, 0, -1, 0), -2);
        due("NONE", x.ahead(-1, 0, 0, 0), -2);
        due("good", x.ahead(3, 0, 0, 0), -2);
    }

    private static void depot() {
        StockGrid x = world(100, 50, 1000);
        due("none", x.depot(0, 0), -1);
        due("none", x.depot(0, 2), -1);
        x.add(0, 10, 5, 10, 5, 1);
        x.add(0, 20, 9, 20, 9, 1);
        due("of like ones the least x", x.depot(0, 0), 10);
        due("of like ones the least y", x.depot(0, 1), 5);
        due("haul", x.depot(0, 2), 14);
        x.add(0, 20, 9, 20, 9, 1);
        due("the more", x.depot(0, 0), 20);
        due("the more", x.depot(0, 1), 9);
        due("haul", x.depot(0, 2), 14);
        x.add(1, 0, 0, 99, 49, 2);
        due("middle", x.depot(1, 0), 49);
        due("middle", x.depot(1, 1), 24);
        due("haul", x.depot(1, 2), 2 * (50 * 2500 + 100 * 625));
        due("what", x.depot(0, 3), -2);
        due("what", x.depot(2, -1), -2);
        due("NONE", x.depot(-1, 0), -2);
        due("good", x.depot(3, 0), -2);
        StockGrid y = world(10_000, 10_000, 1_000_000_000_000L);
        y.add(0, 0, 0, 9_999, 9_999, 1_000_000_000);
        due("above", y.depot(0, 2), -6);
        due("x all the same", y.depot(0, 0), 4_999);
        due("y all the same", y.depot(0, 1), 4_999);
        StockGrid z = world(10_000, 10_000, 1_000_000_000_000L);
        z.add(2, 0, 0, 0, 9_999, 1_000_000_000);
        z.add(2, 3_001, 0, 3_001, 9_999, 1_000_000_000);
        haulAtItsTop(z);
    }

    private static void haulAtItsTop(StockGrid z) {
        // Each of two columns of 10,000 cells has 1e13 units: across 3,001e13, down 2 times 25e15.
        due("sound", z.depot(2, 2), 30_010_000_000_000_000L + 50_000_000_000_000_000L);
        StockGrid x = world(10_000, 1, 1_000_000_000_000L);
        for (int i = 0; i < 300; i++) {
            x.add(0, 0, 0, 999, 0, 1_000_000_000);
            if (i % 150 == 149) {
                due("in a row of 1,000", x.depot(0, 2), 250_000L * (i + 1) * 1_000_000_000L);
            }
        }
        StockGrid y = world(1, 10_000, 1_000_000_000_000L);
        for (int i = 0; i < 120; i++) {
            y.add(0, 0, 0, 0, 9_999, 1_000_000_000);
        }
        due("25e6 times 120e9 is the greatest", y.depot(0, 2), TOP);
        y.add(0, 0, 4_999, 0, 4_999, 1);
        due("one more at the depot", y.depot(0, 2), TOP);
        y.add(0, 0, 5_000, 0, 5_000, 1);
        due("one above", y.depot(0, 2), -6);
        StockGrid both = world(10_000, 2, 1_000_000_000_000L);
        for (int i = 0; i < 60; i++) {
            both.add(0, 0, 0, 9_999, 1, 1_000_000_000);
        }
        due("the greatest across, some down", both.depot(0, 2), -6);
    }

    private static void window() {
        StockGrid x = world(20, 10, 100);
        due("none: x", x.window(0, 3, 3, 0), 0);
        due("none: y", x.window(0, 3, 3, 1), 0);
        due("none: units", x.window(0, 3, 3, 2), 0);
        x.add(0, 5, 4, 9, 8, 2);
        due("first by X1 within", x.window(0, 3, 2, 0), 5);
        due("first by Y1 within", x.window(0, 3, 2, 1), 4);
        due("units", x.window(0, 3, 2, 2), 12);
        due("greater: as early as all is in it", x.window(0, 7, 6, 0), 3);
        due("greater: as early as all is in it", x.window(0, 7, 6, 1), 3);
        due("greater: units", x.window(0, 7, 6, 2), 50);
        due("whole", x.window(0, 20, 10, 2), 50);
        x.add(0, 18, 9, 19, 9, 100);
        due("at the end: x", x.window(0, 2, 1, 0), 18);
        due("at the end: y", x.window(0, 2, 1, 1), 9);
        x.add(0, 0, 9, 1, 9, 100);
        due("of like ones the first X1", x.window(0, 2, 1, 0), 0);
        x.add(0, 18, 8, 19, 8, 100);
        due("Y1 goes ahead of X1", x.window(0, 2, 1, 0), 18);
        due("of like ones the first Y1", x.window(0, 2, 1, 1), 8);
        due("of another", x.window(1, 2, 1, 2), 0);
        due("a 0", x.window(0, 0, 1, 0), -3);
        due("b 0", x.window(0, 1, 0, 0), -3);
        due("a above W", x.window(0, 21, 1, 0), -3);
        due("b above H", x.window(0, 1, 11, 0), -3);
        due("a", x.window(0, LOW, 1, 0), -3);
        due("b", x.window(0, 1, HIGH, 0), -3);
        due("-2 ahead of -3", x.window(0, 0, 1, 3), -2);
        due("what", x.window(0, 1, 1, -1), -2);
        due("NONE", x.window(-1, 1, 1, 0), -2);
        due("good", x.window(3, 1, 1, 0), -2);
    }

    private static void line() {
        StockGrid x = world(20, 10, 100);
        due("none", x.line(0, 0, 0), 0);
        due("none", x.line(0, 1, 1), 0);
        x.add(0, 5, 4, 9, 5, 2);
        due("x, the first of like ones", x.line(0, 0, 0), 5);
        due("its units", x.line(0, 0, 1), 4);
        due("y, the first of like ones", x.line(0, 1, 0), 4);
        due("its units", x.line(0, 1, 1), 10);
        x.add(0, 12, 5, 12, 5, 9);
        due("x", x.line(0, 0, 0), 12);
        due("y", x.line(0, 1, 0), 5);
        due("its units", x.line(0, 1, 1), 19);
        due("of another", x.line(1, 0, 1), 0);
        due("axis", x.line(0, 2, 0), -2);
        due("axis", x.line(0, -1, 0), -2);
        due("what", x.line(0, 0, 2), -2);
        due("what", x.line(0, 0, -1), -2);
        due("NONE", x.line(-1, 0, 0), -2);
        due("good", x.line(3, 0, 0), -2);
    }

    private static void borders() {
        StockGrid x = world(100, 100, 100);
        x.add(0, 50, 50, 59, 59, 1);
        due("three", x.borders(0, 0), 3);
        due("none late", x.borders(0, 1), 0);
        x.add(0, 50, 50, 59, 59, 1);
        due("whether or not more than once", x.borders(0, 0), 3);
        x.add(0, 10, 70, 59, 79, 1);
        due("10 is late", x.borders(0, 1), 1);
        due("70 and 80 are not", x.borders(1, 1), 0);
        x.add(0, 60, 60, 60, 99, 1);
        due("61 is not", x.borders(0, 1), 1);
        x.add(0, 0, 0, 99, 99, 1);
        due("nor 0 and W", x.borders(0, 0), 5);
        x.begin();
        x.add(0, 20, 20, 30, 30, 1);
        x.cancel();
        due("those of what was cancelled stay", x.borders(0, 0), 7);
        due("and are late", x.borders(0, 1), 3);
        due("axis", x.borders(2, 0), -2);
        due("axis", x.borders(-1, 0), -2);
        due("what", x.borders(0, 2), -2);
        due("what", x.borders(0, -1), -2);
    }

    private static void border() {
        StockGrid x = world(100, 80, 100);
        x.add(0, 50, 20, 99, 79, 1);
        x.add(0, 10, 30, 20, 40, 1);
        int[] across = {0, 10, 21, 50};
        int[] down = {0, 20, 30, 41};
        for (int i = 0; i < 4; i++) {
            due("across " + i, x.border(0, i), across[i]);
            due("down " + i, x.border(1, i), down[i]);
        }
        due("not so many", x.border(0, 4), -1);
        due("not so many", x.border(1, HIGH), -1);
        due("i", x.border(0, -1), -3);
        due("i", x.border(1, LOW), -3);
        due("axis", x.border(2, 0), -2);
        due("-2 ahead of -3", x.border(-1, -1), -2);
    }

    private static void act() {
        StockGrid x = world(100, 80, 100);
        x.add(1, 2, 3, 14, 15, 6);
        x.add(1, 2, 3, 4, 5, -1);
        x.pick(1, 3, 4, 10, 11, 5);
        x.move(1, 2, 3, 4, 5, -2, 7);
        x.move(1, 2, 3, 4, 5, 3, -1);
        x.level(1, 2, 3, 14, 15);
        long left = 13 * 13 * 6 - 9 - 5;
        long moved = x.sum(1, 0, 0, 1, 79);
        long[][] want = {
            {0, 1, 2, 3, 14, 15, 6}, {0, 1, 2, 3, 4, 5, -1}, {1, 1, 3, 4, 10, 11, 5},
            {2, 1, 2, 3, 4, 5, -199_993}, {2, 1, 2, 3, 4, 5, 299_999},
            {3, 1, 2, 3, 14, 15, left - moved - x.sum(1, 2, 0, 99, 2)}};
        for (int i = 0; i < want.length; i++) {
            for (int what = 0; what < 7; what++) {
                due("act(" + i + ", " + what + ")", x.act(i, what), want[i][what]);
            }
        }
        due("i", x.act(6, 0), -2);
        due("i", x.act(-1, 0), -2);
        due("i", x.act(HIGH, 0), -2);
        due("what", x.act(0, 7), -2);
        due("what", x.act(0, -1), -2);
        for (int i = 1; i <= 36; i++) {
            x.add(2, 0, 0, 0, 0, i % 2 == 0 ? -1 : 2);
        }
        due("40 are told", x.count(4), 40);
        due("the eldest two are forgotten", x.act(0, 0), 1);
        due("the last", x.act(39, 6), -1);
        due("i", x.act(40, 0), -2);
    }

    private static void count() {
        StockGrid x = world(100, 80, 77);
        x.add(0, 0, 0, 5, 5, 1);
        x.begin();
        x.feed(0, 0, 0, 0, 0);
        long[] want = {8000, 100, 80, 1, 1, 20, 77, -1, -1};
        for (int what = 0; what < want.length; what++) {
            due("what " + what, x.count(what), want[what]);
        }
        due("what", x.count(-1), -1);
        due("what", x.count(LOW), -1);
    }
}
