import java.util.Arrays;

/**
 * Stock on the floor of a warehouse. The grid has up to 10,000 by 10,000 cells, but all cells
 * between two neighbouring borders of both axes hold the same: only one number a good is kept
 * for such a field.
 */
public final class StockGrid {
    public static final int NONE = -1;

    private static final int NO_SUCH = -2;
    private static final int BAD_NUMBER = -3;
    private static final int TOO_MANY = -4;
    private static final int TOO_FEW = -5;
    private static final int TOO_GREAT = -6;
    private static final int OVER_CAP = -7;
    private static final int NOTHING_OPEN = -8;
    private static final int OVER_LIMIT = -9;
    private static final int FAULTY_TEXT = -30;

    private static final long MOST_UNITS = 3_000_000_000_000_000_000L;
    private static final long BEYOND_ALL = 9_000_000_000_000_000_001L;
    private static final int LONG_BITS = 64;
    private static final long MOST_CAP = 1_000_000_000_000L;
    private static final int MOST_ADDED = 1_000_000_000;
    private static final int MOST_SIDE = 10_000;
    private static final int MOST_SHIFT = 9_999;
    private static final int MOST_OPEN = 8;
    private static final int MOST_TOLD = 40;
    private static final int MOST_FED = 500;
    private static final int GOODS = 3;
    private static final int ZONES = 6;

    private static final int MOST_BORDERS = 48;
    /** A plan may hold more than are allowed till they are counted: a MOVE's are 48, 4 and 47. */
    private static final int MOST_PLANNED = 104;
    /** The fields of one good: field (i, j) stands at MOST_BORDERS times j, and i. */
    private static final int PLANE = MOST_BORDERS * MOST_BORDERS;
    /** A window's best start is a border, a border less its size, or the last start there is. */
    private static final int MOST_STARTS = 2 * MOST_BORDERS + 1;

    private static final int ROWS = 0;
    private static final int COLUMNS = 1;

    private static final int ADDED = 0;
    private static final int PICKED = 1;
    private static final int MOVED = 2;
    private static final int LEVELLED = 3;

    private static final int MOVE_SCALE = 100_000;

    private final Survey survey = new Survey();
    private final Floor floor = survey.floor;
    private final Standing standing = new Standing();
    private final Script script = new Script();
    private final Rect asked = new Rect();
    private final Rect other = new Rect();
    private int refusal;

    public StockGrid() {
        floor.clear(1, 1, MOST_CAP);
    }

    public long world(int w, int h, long cap) {
        if (w < 1 || w > MOST_SIDE || h < 1 || h > MOST_SIDE || cap < 1 || cap > MOST_CAP) {
            return BAD_NUMBER;
        }
        floor.clear(w, h, cap);
        standing.clear();
        return floor.whole.cells();
    }

    // ---- acts

    public long add(int good, int x1, int y1, int x2, int y2, int v) {
        if (!isGood(good) || !ask(x1, y1, x2, y2)) {
            return NO_SUCH;
        }
        if (v == 0 || v < -MOST_ADDED || v > MOST_ADDED) {
            return BAD_NUMBER;
        }
        int refused = floor.addRefusal(good, asked, v);
        if (refused != 0) {
            return refused;
        }
        floor.plan(asked);
        if (floor.plansTooMany()) {
            return TOO_MANY;
        }
        floor.startTrial(good);
        floor.raise(asked, v);
        keep(ADDED, good, v);
        return floor.sumOf(good, floor.whole);
    }

    public long pick(int good, int x1, int y1, int x2, int y2, long n) {
        if (!isGood(good) || !ask(x1, y1, x2, y2)) {
            return NO_SUCH;
        }
        if (n < 1 || n > MOST_UNITS) {
            return BAD_NUMBER;
        }
        if (!survey.locate(good, ROWS, asked, n)) {
            return TOO_FEW;
        }
        int x = survey.x;
        int y = survey.y;
        floor.plan(asked);
        floor.across.planSpan(x, x);
        floor.down.planSpan(y, y);
        if (floor.plansTooMany()) {
            return TOO_MANY;
        }
        floor.startTrial(good);
        floor.fill(x1, y1, x2, y - 1, 0);
        floor.fill(x1, y, x - 1, y, 0);
        floor.fill(x, y, x, y, survey.left);
        keep(PICKED, good, n);
        return floor.number(x, y);
    }

    public long move(int good, int x1, int y1, int x2, int y2, int dx, int dy) {
        if (!isGood(good) || !ask(x1, y1, x2, y2)) {
            return NO_SUCH;
        }
        if (!isShift(dx) || !isShift(dy) || (dx == 0 && dy == 0)) {
            return BAD_NUMBER;
        }
        other.set(x1 + dx, y1 + dy, x2 + dx, y2 + dy);
        if (!floor.holds(other)) {
            return NO_SUCH;
        }
        floor.plan(asked);
        floor.planMore(other);
        floor.across.planShifted(x1, x2, dx);
        floor.down.planShifted(y1, y2, dy);
        if (floor.plansTooMany()) {
            return TOO_MANY;
        }
        long units = floor.sumOf(good, asked);
        floor.startTrial(good);
        floor.fill(x1, y1, x2, y2, 0);
        floor.across.traceSources(x1, x2, dx);
        floor.down.traceSources(y1, y2, dy);
        floor.bring(good, other);
        int refused = floor.trialRefusal(good);
        if (refused != 0) {
            return refused;
        }
        keep(MOVED, good, (long) MOVE_SCALE * dx + dy);
        return units;
    }

    public long level(int good, int x1, int y1, int x2, int y2) {
        if (!isGood(good) || !ask(x1, y1, x2, y2)) {
            return NO_SUCH;
        }
        long units = floor.sumOf(good, asked);
        long cells = Math.max(1, asked.cells());
        long wide = Math.max(1, asked.width());
        long least = units / cells;
        long over = units % cells;
        int x = over > 0 ? (int) (x1 + (over - 1) % wide) : x2;
        int y = over > 0 ? (int) (y1 + (over - 1) / wide) : y2;
        floor.plan(asked);
        if (over > 0) {
            floor.across.next.put(x + 1);
            floor.down.planSpan(y, y);
        }
        if (floor.plansTooMany()) {
            return TOO_MANY;
        }
        floor.startTrial(good);
        floor.fill(x1, y1, x2, y2, least);
        if (over > 0) {
            floor.fill(x1, y1, x2, y - 1, least + 1);
            floor.fill(x1, y, x, y, least + 1);
        }
        int refused = floor.trialRefusal(good);
        if (refused != 0) {
            return refused;
        }
        keep(LEVELLED, good, units);
        return least;
    }

    public long zone(int zone, int x1, int y1, int x2, int y2, long limit) {
        Zone its = floor.zoneOf(zone);
        if (its == null || !ask(x1, y1, x2, y2)) {
            return NO_SUCH;
        }
        if (limit < 0 || limit > MOST_UNITS) {
            return BAD_NUMBER;
        }
        long units = floor.sumOf(NONE, asked);
        if (units > limit) {
            return OVER_LIMIT;
        }
        its.rect.set(x1, y1, x2, y2);
        its.limit = limit;
        its.there = true;
        return units;
    }

    public long zoneAt(int zone, int what) {
        Zone its = floor.zoneOf(zone);
        if (its == null || what < 0 || what > 5) {
            return NO_SUCH;
        }
        if (!its.there) {
            return NONE;
        }
        if (what < 4) {
            return its.rect.side(what);
        }
        if (what == 4) {
            return its.limit;
        }
        return Math.max(0, its.limit - floor.sumOf(NONE, its.rect));
    }

    public int begin() {
        if (floor.open >= MOST_OPEN) {
            return TOO_MANY;
        }
        floor.save();
        return floor.open;
    }

    public int commit() {
        if (floor.open < 1) {
            return NOTHING_OPEN;
        }
        floor.joinInnermost();
        return floor.open;
    }

    public int cancel() {
        if (floor.open < 1) {
            return NOTHING_OPEN;
        }
        int acts = floor.restore();
        standing.dropLatest(acts);
        return acts;
    }

    public int feed(int a, int b, int c, int d, int e) {
        if (!script.hasRoom()) {
            return TOO_MANY;
        }
        script.put(a);
        script.put(b);
        script.put(c);
        script.put(d);
        script.put(e);
        return script.fed;
    }

    public int run(int n) {
        if (n < 0 || n > script.fed) {
            return BAD_NUMBER;
        }
        int wrong = script.read(n);
        script.fed = 0;
        refusal = 0;
        if (wrong != 0) {
            return FAULTY_TEXT - wrong;
        }
        for (int i = 0; i < script.acts; i++) {
            long answer = doTold(i);
            if (answer < 0) {
                refusal = (int) answer;
                return i;
            }
        }
        return script.acts;
    }

    public int fault(int what) {
        switch (what) {
            case 0: return script.wrong;
            case 1: return script.wrongAt;
            case 2: return refusal;
            default: return NONE;
        }
    }

    // ---- sums

    public long sum(int good, int x1, int y1, int x2, int y2) {
        if (!isGoodOrAll(good) || !ask(x1, y1, x2, y2)) {
            return NO_SUCH;
        }
        return floor.sumOf(good, asked);
    }

    public long at(int good, int x, int y) {
        if (!isGoodOrAll(good) || !ask(x, y, x, y)) {
            return NO_SUCH;
        }
        return floor.sumOf(good, asked);
    }

    public long bound(int good, int x1, int y1, int x2, int y2, int what) {
        if (!isGoodOrAll(good) || !ask(x1, y1, x2, y2) || what < 0 || what > 1) {
            return NO_SUCH;
        }
        return what == 0 ? floor.leastIn(good, asked) : floor.mostIn(good, asked);
    }

    public long empty(int x1, int y1, int x2, int y2) {
        if (!ask(x1, y1, x2, y2)) {
            return NO_SUCH;
        }
        return asked.cells() - floor.cellsFrom(NONE, asked, 1);
    }

    public long share(int good, int x1, int y1, int x2, int y2, int what) {
        if (!isGood(good) || !ask(x1, y1, x2, y2) || what < 0 || what > 1) {
            return NO_SUCH;
        }
        long part = floor.sumOf(good, asked);
        long all = floor.sumOf(good, floor.whole);
        long common = commonDivisor(part, all);
        if (common < 1) {
            return what;
        }
        return what == 0 ? part / common : all / common;
    }

    public long atLeast(int good, int x1, int y1, int x2, int y2, long t) {
        if (!isGoodOrAll(good) || !ask(x1, y1, x2, y2)) {
            return NO_SUCH;
        }
        if (t < 0) {
            return BAD_NUMBER;
        }
        return floor.cellsFrom(good, asked, t);
    }

    public long value(int good, int x1, int y1, int x2, int y2, long k) {
        if (!isGoodOrAll(good) || !ask(x1, y1, x2, y2)) {
            return NO_SUCH;
        }
        if (k < 1) {
            return BAD_NUMBER;
        }
        if (k > asked.cells()) {
            return NONE;
        }
        return floor.valueOfRank(good, asked, k);
    }

    public long hole(int what) {
        if (what < 0 || what > 4) {
            return NO_SUCH;
        }
        if (!survey.findHole()) {
            return NONE;
        }
        return what == 4 ? survey.hollow.cells() : survey.hollow.side(what);
    }

    public long before(int i, int good, int x1, int y1, int x2, int y2) {
        Saved begun = floor.savedAt(i);
        if (begun == null || !isGood(good) || !ask(x1, y1, x2, y2)) {
            return NO_SUCH;
        }
        return floor.sumWhenSaved(begun, good, asked);
    }

    // ---- units by order

    public long find(int good, int order, long k) {
        if (!isGood(good) || !isAxis(order)) {
            return NO_SUCH;
        }
        return numberOfUnit(good, order, floor.whole, k);
    }

    public long findIn(int good, int x1, int y1, int x2, int y2, long k) {
        if (!isGood(good) || !ask(x1, y1, x2, y2)) {
            return NO_SUCH;
        }
        return numberOfUnit(good, ROWS, asked, k);
    }

    public long touched(int good, int x1, int y1, int x2, int y2, long n) {
        if (!isGood(good) || !ask(x1, y1, x2, y2)) {
            return NO_SUCH;
        }
        if (n < 1) {
            return BAD_NUMBER;
        }
        return survey.locate(good, ROWS, asked, n) ? survey.reached : NONE;
    }

    public long ahead(int good, int order, int x, int y) {
        if (!isGood(good) || !isAxis(order) || !ask(x, y, x, y)) {
            return NO_SUCH;
        }
        if (order == ROWS) {
            asked.set(0, 0, floor.whole.x2, y - 1);
            other.set(0, y, x - 1, y);
        } else {
            asked.set(0, 0, x - 1, floor.whole.y2);
            other.set(x, 0, x, y - 1);
        }
        return floor.sumOf(good, asked) + floor.sumOf(good, other);
    }

    // ---- where

    public long depot(int good, int what) {
        if (!isGood(good) || what < 0 || what > 2) {
            return NO_SUCH;
        }
        long units = floor.sumOf(good, floor.whole);
        if (units < 1) {
            return NONE;
        }
        if (what == 0) {
            return survey.middle(good, COLUMNS, units);
        }
        if (what == 1) {
            return survey.middle(good, ROWS, units);
        }
        long haul = survey.haulAcross(good, COLUMNS, survey.middle(good, COLUMNS, units), 0);
        haul = survey.haulAcross(good, ROWS, survey.middle(good, ROWS, units), haul);
        return haul > MOST_UNITS ? TOO_GREAT : haul;
    }

    public long window(int good, int a, int b, int what) {
        if (!isGood(good) || what < 0 || what > 2) {
            return NO_SUCH;
        }
        if (a < 1 || a > floor.whole.width() || b < 1 || b > floor.whole.height()) {
            return BAD_NUMBER;
        }
        survey.findWindow(good, a, b);
        switch (what) {
            case 0: return survey.x;
            case 1: return survey.y;
            default: return survey.most;
        }
    }

    public long line(int good, int axis, int what) {
        if (!isGood(good) || !isAxis(axis) || what < 0 || what > 1) {
            return NO_SUCH;
        }
        int first = survey.findLine(good, axis == 0 ? COLUMNS : ROWS);
        return what == 0 ? first : survey.most;
    }

    // ---- borders, what stands

    public int borders(int axis, int what) {
        if (!isAxis(axis) || what < 0 || what > 1) {
            return NO_SUCH;
        }
        Axis its = floor.axisOf(axis);
        return what == 0 ? its.now.size : its.late;
    }

    public int border(int axis, int i) {
        if (!isAxis(axis)) {
            return NO_SUCH;
        }
        if (i < 0) {
            return BAD_NUMBER;
        }
        Cuts its = floor.axisOf(axis).now;
        return i < its.size ? its.from[i] : NONE;
    }

    public long act(int i, int what) {
        if (i < 0 || i >= standing.size || what < 0 || what >= Standing.FIELDS) {
            return NO_SUCH;
        }
        return standing.told(i, what);
    }

    public long count(int what) {
        switch (what) {
            case 0: return floor.whole.cells();
            case 1: return floor.whole.width();
            case 2: return floor.whole.height();
            case 3: return floor.open;
            case 4: return standing.size;
            case 5: return script.fed;
            case 6: return floor.cap;
            default: return NONE;
        }
    }

    private static boolean isGood(int good) {
        return good >= 0 && good < GOODS;
    }

    private static boolean isGoodOrAll(int good) {
        return good == NONE || isGood(good);
    }

    private static boolean isAxis(int axis) {
        return axis == 0 || axis == 1;
    }

    private static boolean isShift(int by) {
        return by >= -MOST_SHIFT && by <= MOST_SHIFT;
    }

    /** Of 0 and 0 it is 0. */
    private static long commonDivisor(long a, long b) {
        long high = a;
        long low = b;
        // Euclid's steps on longs are fewer than 100.
        for (int step = 0; step < 200 && low != 0; step++) {
            long rest = high % low;
            high = low;
            low = rest;
        }
        return high;
    }

    private boolean ask(int x1, int y1, int x2, int y2) {
        asked.set(x1, y1, x2, y2);
        return floor.holds(asked);
    }

    /** The trial becomes what is so, and the act upon it stands. */
    private void keep(int kind, int good, long amount) {
        floor.adopt(good);
        standing.put(kind, good, asked, amount);
    }

    private long numberOfUnit(int good, int order, Rect rect, long k) {
        if (k < 1) {
            return BAD_NUMBER;
        }
        return survey.locate(good, order, rect, k) ? floor.number(survey.x, survey.y) : NONE;
    }

    private long doTold(int i) {
        long amount = script.amount(i);
        switch (script.kind(i)) {
            case Script.ADD:
                return add(script.number(i, 0), script.number(i, 1), script.number(i, 2),
                        script.number(i, 3), script.number(i, 4), (int) amount);
            case Script.PICK:
                return pick(script.number(i, 0), script.number(i, 1), script.number(i, 2),
                        script.number(i, 3), script.number(i, 4), amount);
            case Script.BEGIN: return begin();
            case Script.COMMIT: return commit();
            default: return cancel();
        }
    }

    private static final class Rect {
        int x1;
        int y1;
        int x2;
        int y2;

        void set(int left, int top, int right, int bottom) {
            x1 = left;
            y1 = top;
            x2 = right;
            y2 = bottom;
        }

        int side(int what) {
            switch (what) {
                case 0: return x1;
                case 1: return y1;
                case 2: return x2;
                default: return y2;
            }
        }

        int width() {
            return x2 - x1 + 1;
        }

        int height() {
            return y2 - y1 + 1;
        }

        long cells() {
            return (long) width() * height();
        }
    }

    private static final class Zone {
        final Rect rect = new Rect();
        long limit;
        boolean there;
    }

    /** What a CANCEL brings back. */
    private static final class Saved {
        final long[] units = new long[GOODS * PLANE];
        int acts;
    }

    /**
     * The borders of one axis, rising: from border i to the next one goes band i of lines. The
     * place behind the last line stands behind the last border, but it is none.
     */
    private static final class Cuts {
        final int[] from = new int[MOST_PLANNED + 1];
        int size;
        int length;

        void clear(int newLength) {
            length = newLength;
            size = 1;
            from[0] = 0;
            from[1] = newLength;
        }

        void copy(Cuts cuts) {
            length = cuts.length;
            size = cuts.size;
            System.arraycopy(cuts.from, 0, from, 0, cuts.size + 1);
        }

        /** A border that is there comes no more. */
        void put(int place) {
            if (place <= 0 || place >= length || size >= MOST_PLANNED) {
                return;
            }
            int band = bandOf(place);
            if (from[band] == place) {
                return;
            }
            for (int i = size + 1; i > band + 1; i--) {
                from[i] = from[i - 1];
            }
            from[band + 1] = place;
            size++;
        }

        /** The place behind the last line counts to the last band. */
        int bandOf(int place) {
            int low = 0;
            int high = size - 1;
            for (int step = 0; step < MOST_PLANNED && low < high; step++) {
                int middle = (low + high + 1) / 2;
                if (from[middle] <= place) {
                    low = middle;
                } else {
                    high = middle - 1;
                }
            }
            return low;
        }

        int widthOf(int band) {
            return from[band + 1] - from[band];
        }

        /** How many lines of the band are among those from low to high; it has some of them. */
        int overlap(int band, int low, int high) {
            int first = from[band] < low ? low : from[band];
            int end = from[band + 1] > high ? high + 1 : from[band + 1];
            return end - first;
        }
    }

    /** The borders of an axis as they are, and as an act would have them. */
    private static final class Axis {
        final Cuts now = new Cuts();
        final Cuts next = new Cuts();
        /** Of each planned band the band that it is cut from. */
        final int[] origin = new int[MOST_BORDERS];
        /** Of each planned band the band whose goods a MOVE brings to it, or NONE. */
        final int[] source = new int[MOST_BORDERS];
        int late;

        void clear(int length) {
            now.clear(length);
            next.clear(length);
            late = 0;
        }

        void planSpan(int low, int high) {
            next.put(low);
            next.put(high + 1);
        }

        void planShifted(int low, int high, int by) {
            for (int i = 0; i < now.size; i++) {
                if (now.from[i] > low && now.from[i] <= high) {
                    next.put(now.from[i] + by);
                }
            }
        }

        boolean plansTooMany() {
            return next.size > MOST_BORDERS;
        }

        boolean grows() {
            return next.size > now.size;
        }

        void traceOrigins() {
            for (int i = 0; i < next.size && i < origin.length; i++) {
                origin[i] = now.bandOf(next.from[i]);
            }
        }

        void traceSources(int low, int high, int by) {
            for (int i = 0; i < next.size && i < source.length; i++) {
                int place = next.from[i] - by;
                source[i] = place >= low && place <= high ? now.bandOf(place) : NONE;
            }
        }

        void adopt() {
            int top = now.from[now.size - 1];
            for (int i = 0; i < next.size && i < origin.length; i++) {
                boolean isNew = now.from[origin[i]] != next.from[i];
                if (isNew && next.from[i] < top) {
                    late++;
                }
            }
            now.copy(next);
        }
    }

    /** The goods in all fields, what was saved of them, the zones, and the trial of an act. */
    private static final class Floor {
        final Axis across = new Axis();
        final Axis down = new Axis();
        final Rect whole = new Rect();
        final long[] units = new long[GOODS * PLANE];
        /** One good's fields by the planned borders, as the act would leave them. */
        final long[] trial = new long[PLANE];
        final Zone[] zones = new Zone[ZONES];
        final Saved[] saved = new Saved[MOST_OPEN];
        long cap;
        int open;

        Floor() {
            for (int i = 0; i < zones.length; i++) {
                zones[i] = new Zone();
            }
        }

        void clear(int w, int h, long newCap) {
            across.clear(w);
            down.clear(h);
            whole.set(0, 0, w - 1, h - 1);
            cap = newCap;
            open = 0;
            Arrays.fill(units, 0);
            for (int i = 0; i < zones.length; i++) {
                zones[i].there = false;
            }
        }

        Axis axisOf(int axis) {
            return axis == 0 ? across : down;
        }

        Zone zoneOf(int zone) {
            return zone >= 0 && zone < zones.length ? zones[zone] : null;
        }

        Saved savedAt(int i) {
            return i >= 0 && i < open && i < saved.length ? saved[i] : null;
        }

        boolean holds(Rect r) {
            return r.x1 >= 0 && r.x1 <= r.x2 && r.x2 <= whole.x2
                    && r.y1 >= 0 && r.y1 <= r.y2 && r.y2 <= whole.y2;
        }

        long number(int x, int y) {
            return (long) whole.width() * y + x;
        }

        /** Of a good, or of all (NONE). */
        long unitsAt(int good, int field) {
            if (good == NONE) {
                return units[field] + units[PLANE + field] + units[2 * PLANE + field];
            }
            return units[good * PLANE + field];
        }

        // What is there.

        /** A rectangle without any cell has none. */
        long sumOf(int good, Rect r) {
            if (good != NONE) {
                return sumBy(across.now, down.now, units, good * PLANE, r);
            }
            long total = 0;
            for (int each = 0; each < GOODS; each++) {
                total += sumBy(across.now, down.now, units, each * PLANE, r);
            }
            return total;
        }

        long sumWhenSaved(Saved begun, int good, Rect r) {
            return sumBy(across.now, down.now, begun.units, good * PLANE, r);
        }

        long sumBy(Cuts xs, Cuts ys, long[] plane, int offset, Rect r) {
            if (r.x1 > r.x2 || r.y1 > r.y2) {
                return 0;
            }
            long total = 0;
            int first = xs.bandOf(r.x1);
            int last = xs.bandOf(r.x2);
            int lastRow = ys.bandOf(r.y2);
            for (int j = ys.bandOf(r.y1); j <= lastRow; j++) {
                int row = offset + MOST_BORDERS * j;
                long inLine = 0;
                for (int i = first; i <= last; i++) {
                    inLine += plane[row + i] * xs.overlap(i, r.x1, r.x2);
                }
                total += inLine * ys.overlap(j, r.y1, r.y2);
            }
            return total;
        }

        long leastIn(int good, Rect r) {
            long least = BEYOND_ALL;
            int last = across.now.bandOf(r.x2);
            int lastRow = down.now.bandOf(r.y2);
            for (int j = down.now.bandOf(r.y1); j <= lastRow; j++) {
                for (int i = across.now.bandOf(r.x1); i <= last; i++) {
                    least = Math.min(least, unitsAt(good, MOST_BORDERS * j + i));
                }
            }
            return least;
        }

        long mostIn(int good, Rect r) {
            long most = 0;
            int last = across.now.bandOf(r.x2);
            int lastRow = down.now.bandOf(r.y2);
            for (int j = down.now.bandOf(r.y1); j <= lastRow; j++) {
                for (int i = across.now.bandOf(r.x1); i <= last; i++) {
                    most = Math.max(most, unitsAt(good, MOST_BORDERS * j + i));
                }
            }
            return most;
        }

        /** How many cells have so many units or more. */
        long cellsFrom(int good, Rect r, long least) {
            long cells = 0;
            int first = across.now.bandOf(r.x1);
            int last = across.now.bandOf(r.x2);
            int lastRow = down.now.bandOf(r.y2);
            for (int j = down.now.bandOf(r.y1); j <= lastRow; j++) {
                long inLine = 0;
                for (int i = first; i <= last; i++) {
                    if (unitsAt(good, MOST_BORDERS * j + i) >= least) {
                        inLine += across.now.overlap(i, r.x1, r.x2);
                    }
                }
                cells += inLine * down.now.overlap(j, r.y1, r.y2);
            }
            return cells;
        }

        /** The least number that k cells or more do not exceed; k is not above all cells. */
        long valueOfRank(int good, Rect r, long k) {
            long low = leastIn(good, r);
            long high = mostIn(good, r);
            long cells = r.cells();
            for (int step = 0; step < LONG_BITS && low < high; step++) {
                long middle = low + (high - low) / 2;
                if (cells - cellsFrom(good, r, middle + 1) >= k) {
                    high = middle;
                } else {
                    low = middle + 1;
                }
            }
            return low;
        }

        // What is open.

        void save() {
            if (open >= saved.length) {
                return;
            }
            if (saved[open] == null) {
                saved[open] = new Saved();
            }
            System.arraycopy(units, 0, saved[open].units, 0, units.length);
            saved[open].acts = 0;
            open++;
        }

        void joinInnermost() {
            Saved inner = savedAt(open - 1);
            Saved around = savedAt(open - 2);
            if (inner != null && around != null) {
                around.acts += inner.acts;
            }
            open--;
        }

        /** How many acts are undone by it. */
        int restore() {
            Saved inner = savedAt(open - 1);
            if (inner == null) {
                return 0;
            }
            System.arraycopy(inner.units, 0, units, 0, units.length);
            open--;
            return inner.acts;
        }

        // What an act would do.

        void plan(Rect r) {
            across.next.copy(across.now);
            down.next.copy(down.now);
            planMore(r);
        }

        void planMore(Rect r) {
            across.planSpan(r.x1, r.x2);
            down.planSpan(r.y1, r.y2);
        }

        boolean plansTooMany() {
            return across.plansTooMany() || down.plansTooMany();
        }

        /** Asked ahead of the plan, as an ADD's borders are the last thing that may refuse it. */
        int addRefusal(int good, Rect r, int v) {
            if (leastIn(good, r) + v < 0) {
                return TOO_FEW;
            }
            if (v < 0) {
                return 0;
            }
            if (mostIn(NONE, r) + v > cap) {
                return OVER_CAP;
            }
            for (int i = 0; i < zones.length; i++) {
                long more = commonCells(zones[i].rect, r) * v;
                if (zones[i].there && more > 0
                        && sumOf(NONE, zones[i].rect) + more > zones[i].limit) {
                    return OVER_LIMIT;
                }
            }
            return sumOf(good, whole) + r.cells() * v > MOST_UNITS ? TOO_GREAT : 0;
        }

        static long commonCells(Rect a, Rect b) {
            long wide = Math.min(a.x2, b.x2) - Math.max(a.x1, b.x1) + 1;
            long high = Math.min(a.y2, b.y2) - Math.max(a.y1, b.y1) + 1;
            return Math.max(0, wide) * Math.max(0, high);
        }

        void startTrial(int good) {
            across.traceOrigins();
            down.traceOrigins();
            for (int j = 0; j < down.next.size; j++) {
                int row = good * PLANE + MOST_BORDERS * down.origin[j];
                for (int i = 0; i < across.next.size; i++) {
                    trial[MOST_BORDERS * j + i] = units[row + across.origin[i]];
                }
            }
        }

        void raise(Rect r, long by) {
            int last = across.next.bandOf(r.x2);
            int lastRow = down.next.bandOf(r.y2);
            for (int j = down.next.bandOf(r.y1); j <= lastRow; j++) {
                for (int i = across.next.bandOf(r.x1); i <= last; i++) {
                    trial[MOST_BORDERS * j + i] += by;
                }
            }
        }

        /** All sides must be planned borders; without any cell nothing is filled. */
        void fill(int x1, int y1, int x2, int y2, long each) {
            if (x1 > x2 || y1 > y2) {
                return;
            }
            int last = across.next.bandOf(x2);
            int lastRow = down.next.bandOf(y2);
            for (int j = down.next.bandOf(y1); j <= lastRow; j++) {
                for (int i = across.next.bandOf(x1); i <= last; i++) {
                    trial[MOST_BORDERS * j + i] = each;
                }
            }
        }

        /** Each cell of the rectangle gets what the traced sources have. */
        void bring(int good, Rect to) {
            int last = across.next.bandOf(to.x2);
            int lastRow = down.next.bandOf(to.y2);
            for (int j = down.next.bandOf(to.y1); j <= lastRow; j++) {
                for (int i = across.next.bandOf(to.x1); i <= last; i++) {
                    int x = across.source[i];
                    int y = down.source[j];
                    if (x != NONE && y != NONE) {
                        trial[MOST_BORDERS * j + i] += units[good * PLANE + MOST_BORDERS * y + x];
                    }
                }
            }
        }

        int trialRefusal(int good) {
            if (trialOverCap(good)) {
                return OVER_CAP;
            }
            return trialOverLimit(good) ? OVER_LIMIT : 0;
        }

        boolean trialOverCap(int good) {
            for (int j = 0; j < down.next.size; j++) {
                for (int i = 0; i < across.next.size; i++) {
                    int field = MOST_BORDERS * down.origin[j] + across.origin[i];
                    long others = unitsAt(NONE, field) - unitsAt(good, field);
                    if (others + trial[MOST_BORDERS * j + i] > cap) {
                        return true;
                    }
                }
            }
            return false;
        }

        boolean trialOverLimit(int good) {
            for (int i = 0; i < zones.length; i++) {
                Zone zone = zones[i];
                if (zone.there) {
                    long more = sumBy(across.next, down.next, trial, 0, zone.rect)
                            - sumOf(good, zone.rect);
                    if (more > 0 && sumOf(NONE, zone.rect) + more > zone.limit) {
                        return true;
                    }
                }
            }
            return false;
        }

        void adopt(int good) {
            if (across.grows() || down.grows()) {
                refine(units);
                for (int i = 0; i < open; i++) {
                    Saved each = savedAt(i);
                    if (each != null) {
                        refine(each.units);
                    }
                }
            }
            across.adopt();
            down.adopt();
            System.arraycopy(trial, 0, units, good * PLANE, PLANE);
            Saved inner = savedAt(open - 1);
            if (inner != null) {
                inner.acts++;
            }
        }

        /** From the last field back, so that none is overwritten that is still to be read. */
        void refine(long[] planes) {
            for (int offset = 0; offset < planes.length; offset += PLANE) {
                for (int j = down.next.size - 1; j >= 0; j--) {
                    int row = offset + MOST_BORDERS * j;
                    int oldRow = offset + MOST_BORDERS * down.origin[j];
                    for (int i = across.next.size - 1; i >= 0; i--) {
                        planes[row + i] = planes[oldRow + across.origin[i]];
                    }
                }
            }
        }
    }

    /** The floor and what looks for a place on it; what it found stands in its fields. */
    private static final class Survey {
        final Floor floor = new Floor();
        final Rect hollow = new Rect();
        /** Units in one line of the band that was measured last, and its cells that have any. */
        long inLine;
        long filled;
        int x;
        int y;
        long left;
        long reached;
        long most;
        /** Of each band of columns the first row from which it is clear down to where we are. */
        final int[] clearFrom = new int[MOST_BORDERS];
        final int[] begunLeft = new int[MOST_BORDERS];
        final int[] begunTop = new int[MOST_BORDERS];
        /** Of field (i, j): units in a column of band i ahead of band j. */
        final long[] above = new long[PLANE];
        final long[] inColumn = new long[MOST_BORDERS];
        final long[] columnsAhead = new long[MOST_BORDERS];
        final int[] startsAcross = new int[MOST_STARTS];
        final int[] startsDown = new int[MOST_STARTS];

        /** The bands of lines that an order goes through one by one. */
        Cuts outer(int order) {
            return order == ROWS ? floor.down.now : floor.across.now;
        }

        Cuts inner(int order) {
            return order == ROWS ? floor.across.now : floor.down.now;
        }

        static int field(int order, int outer, int inner) {
            return order == ROWS ? MOST_BORDERS * outer + inner : MOST_BORDERS * inner + outer;
        }

        void measure(int good, int order, int band, int low, int high) {
            Cuts within = inner(order);
            inLine = 0;
            filled = 0;
            int last = within.bandOf(high);
            for (int i = within.bandOf(low); i <= last; i++) {
                long each = floor.unitsAt(good, field(order, band, i));
                if (each > 0) {
                    long cells = within.overlap(i, low, high);
                    inLine += each * cells;
                    filled += cells;
                }
            }
        }

        void measureWhole(int good, int order, int band) {
            measure(good, order, band, 0, inner(order).length - 1);
        }

        /**
         * The cell of the k-th unit (x, y), how many of it stay if k are picked (left), and
         * from how many cells those are (reached). False: there are not so many.
         */
        boolean locate(int good, int order, Rect r, long k) {
            boolean rows = order == ROWS;
            int low = rows ? r.y1 : r.x1;
            int high = rows ? r.y2 : r.x2;
            int innerLow = rows ? r.x1 : r.y1;
            int innerHigh = rows ? r.x2 : r.y2;
            Cuts bands = outer(order);
            int last = bands.bandOf(high);
            long rest = k;
            reached = 0;
            for (int band = bands.bandOf(low); band <= last; band++) {
                long lines = bands.overlap(band, low, high);
                measure(good, order, band, innerLow, innerHigh);
                if (inLine < 1 || rest > inLine * lines) {
                    rest -= inLine * lines;
                    reached += filled * lines;
                } else {
                    long skipped = (rest - 1) / inLine;
                    reached += filled * skipped;
                    setOuter(order, (int) (Math.max(low, bands.from[band]) + skipped));
                    return locateInLine(good, order, band, rest - skipped * inLine, innerLow);
                }
            }
            return false;
        }

        /** The line is known to have so many from its cell low on. */
        boolean locateInLine(int good, int order, int band, long k, int low) {
            Cuts within = inner(order);
            long rest = k;
            for (int i = within.bandOf(low); i < within.size; i++) {
                long each = floor.unitsAt(good, field(order, band, i));
                int first = Math.max(low, within.from[i]);
                long cells = within.from[i + 1] - first;
                if (each < 1 || rest > each * cells) {
                    rest -= each * cells;
                    reached += each < 1 ? 0 : cells;
                } else {
                    long skipped = (rest - 1) / each;
                    reached += skipped + 1;
                    left = each * (skipped + 1) - rest;
                    setOuter(1 - order, (int) (first + skipped));
                    return true;
                }
            }
            return false;
        }

        void setOuter(int order, int place) {
            if (order == ROWS) {
                y = place;
            } else {
                x = place;
            }
        }

        /** The first line by which half of all units, or more, are come to. */
        int middle(int good, int order, long units) {
            Cuts bands = outer(order);
            long rest = units - units / 2;
            for (int band = 0; band < bands.size; band++) {
                measureWhole(good, order, band);
                long inBand = inLine * bands.widthOf(band);
                if (inLine > 0 && rest <= inBand) {
                    return (int) (bands.from[band] + (rest - 1) / inLine);
                }
                rest -= inBand;
            }
            return 0;
        }

        /** Adds the distances of all units to a line; above the limit it only stays above. */
        long haulAcross(int good, int order, int to, long already) {
            Cuts bands = outer(order);
            long haul = already;
            for (int band = 0; band < bands.size && haul <= MOST_UNITS; band++) {
                measureWhole(good, order, band);
                long way = distances(bands.from[band], bands.from[band + 1] - 1, to);
                if (way > 0 && inLine > (MOST_UNITS - haul) / way) {
                    haul = MOST_UNITS + 1;
                } else {
                    haul += inLine * way;
                }
            }
            return haul;
        }

        /** Of all lines from first to last to one line, in sum. */
        static long distances(int first, int last, int to) {
            if (first >= to) {
                return sumUpTo(last - to) - sumUpTo(first - to - 1);
            }
            if (last <= to) {
                return sumUpTo(to - first) - sumUpTo(to - last - 1);
            }
            return sumUpTo(to - first) + sumUpTo(last - to);
        }

        static long sumUpTo(long n) {
            return n * (n + 1) / 2;
        }

        /** The fullest line of an order, its units in most. */
        int findLine(int good, int order) {
            Cuts bands = outer(order);
            int best = 0;
            most = -1;
            for (int band = 0; band < bands.size; band++) {
                measureWhole(good, order, band);
                if (inLine > most) {
                    most = inLine;
                    best = bands.from[band];
                }
            }
            return best;
        }

        /**
         * Within the starts by which no side of the window crosses a border, its units change
         * evenly along each axis: so the first of the best ones stands at an end of those.
         */
        void findWindow(int good, int wide, int high) {
            int manyAcross = gatherStarts(floor.across.now, wide, startsAcross);
            int manyDown = gatherStarts(floor.down.now, high, startsDown);
            sumColumnsAbove(good);
            most = -1;
            for (int j = 0; j < manyDown && j < startsDown.length; j++) {
                sumColumnsBetween(good, startsDown[j], startsDown[j] + high);
                for (int i = 0; i < manyAcross && i < startsAcross.length; i++) {
                    int start = startsAcross[i];
                    long units = unitsAhead(start + wide) - unitsAhead(start);
                    boolean first = startsDown[j] < y || (startsDown[j] == y && start < x);
                    if (units > most || (units == most && first)) {
                        most = units;
                        x = start;
                        y = startsDown[j];
                    }
                }
            }
        }

        static int gatherStarts(Cuts cuts, int size, int[] starts) {
            int last = cuts.length - size;
            starts[0] = last;
            int many = 1;
            for (int i = 0; i < cuts.size && many + 1 < starts.length; i++) {
                if (cuts.from[i] < last) {
                    starts[many] = cuts.from[i];
                    many++;
                }
                if (cuts.from[i] >= size) {
                    starts[many] = cuts.from[i] - size;
                    many++;
                }
            }
            return many;
        }

        void sumColumnsAbove(int good) {
            Cuts xs = floor.across.now;
            Cuts ys = floor.down.now;
            for (int i = 0; i < xs.size; i++) {
                long total = 0;
                for (int j = 0; j < ys.size; j++) {
                    int field = MOST_BORDERS * j + i;
                    above[field] = total;
                    total += floor.unitsAt(good, field) * ys.widthOf(j);
                }
            }
        }

        /** Of rows from low on ahead of high: units in a column of each band, and ahead of it. */
        void sumColumnsBetween(int good, int low, int high) {
            Cuts xs = floor.across.now;
            Cuts ys = floor.down.now;
            int lowBand = ys.bandOf(low);
            int highBand = ys.bandOf(high);
            long lowPart = low - ys.from[lowBand];
            long highPart = high - ys.from[highBand];
            long total = 0;
            for (int i = 0; i < xs.size; i++) {
                int lowField = MOST_BORDERS * lowBand + i;
                int highField = MOST_BORDERS * highBand + i;
                inColumn[i] = above[highField] + highPart * floor.unitsAt(good, highField)
                        - above[lowField] - lowPart * floor.unitsAt(good, lowField);
                columnsAhead[i] = total;
                total += inColumn[i] * xs.widthOf(i);
            }
        }

        /** Units of the summed rows in columns ahead of a place. */
        long unitsAhead(int place) {
            int band = floor.across.now.bandOf(place);
            return columnsAhead[band] + inColumn[band] * (place - floor.across.now.from[band]);
        }

        /** False: no cell is empty. A largest hole can't grow, so all its sides are borders. */
        boolean findHole() {
            Cuts xs = floor.across.now;
            Cuts ys = floor.down.now;
            most = 0;
            for (int i = 0; i < xs.size; i++) {
                clearFrom[i] = 0;
            }
            for (int j = 0; j < ys.size; j++) {
                for (int i = 0; i < xs.size; i++) {
                    if (floor.unitsAt(NONE, MOST_BORDERS * j + i) > 0) {
                        clearFrom[i] = ys.from[j + 1];
                    }
                }
                takeHolesAbove(ys.from[j + 1] - 1);
            }
            return most > 0;
        }

        /**
         * From left to right: a hole is begun where columns are clear from further up, and ends
         * where they are not. Those begun stand in a heap, each from further up than the last.
         */
        void takeHolesAbove(int bottom) {
            Cuts xs = floor.across.now;
            int begun = 0;
            for (int i = 0; i <= xs.size; i++) {
                int top = i < xs.size ? clearFrom[i] : bottom + 1;
                int left = xs.from[i];
                while (begun > 0 && begunTop[begun - 1] < top) {
                    begun--;
                    left = begunLeft[begun];
                    takeHole(left, begunTop[begun], xs.from[i] - 1, bottom);
                }
                boolean isBegun = begun > 0 && begunTop[begun - 1] == top;
                if (top <= bottom && !isBegun && begun < begunTop.length) {
                    begunLeft[begun] = left;
                    begunTop[begun] = top;
                    begun++;
                }
            }
        }

        void takeHole(int left, int top, int right, int bottom) {
            long cells = (long) (right - left + 1) * (bottom - top + 1);
            if (cells > most || (cells == most && isAheadOfHole(left, top, bottom))) {
                most = cells;
                hollow.set(left, top, right, bottom);
            }
        }

        boolean isAheadOfHole(int left, int top, int bottom) {
            if (top != hollow.y1) {
                return top < hollow.y1;
            }
            return left != hollow.x1 ? left < hollow.x1 : bottom < hollow.y2;
        }
    }

    /** The latest acts that stand, in a ring. */
    private static final class Standing {
        static final int FIELDS = 7;
        final long[] rows = new long[MOST_TOLD * FIELDS];
        int eldest;
        int size;

        void clear() {
            eldest = 0;
            size = 0;
        }

        void put(int kind, int good, Rect r, long amount) {
            if (size == MOST_TOLD) {
                eldest = (eldest + 1) % MOST_TOLD;
                size--;
            }
            int row = rowOf(size);
            rows[row] = kind;
            rows[row + 1] = good;
            for (int i = 0; i < 4; i++) {
                rows[row + 2 + i] = r.side(i);
            }
            rows[row + 6] = amount;
            size++;
        }

        int rowOf(int i) {
            return (eldest + i) % MOST_TOLD * FIELDS;
        }

        long told(int i, int what) {
            return rows[rowOf(i) + what];
        }

        /** What was forgotten does not come back. */
        void dropLatest(int many) {
            size = Math.max(0, size - many);
        }
    }

    /** The tape, and the text on it: read into acts, or with the first of its faults. */
    private static final class Script {
        static final int ADD = 0;
        static final int PICK = 1;
        static final int BEGIN = 2;
        static final int COMMIT = 3;
        static final int CANCEL = 4;

        static final int FED_AT_ONCE = 20;
        static final int MOST_ACTS = 30;
        static final int NUMBERS = 5;
        static final int MOST_PLACE = 9_999;
        static final int MOST_DIGITS = 19;
        /** A number above that gets too great for all bounds by one digit more. */
        static final long LAST_TO_GROW = MOST_UNITS / 10;

        static final int CANT_STAND = 1;
        static final int OUT_OF_BOUNDS = 2;
        static final int ONE_TOO_MANY = 3;

        static final int THE_END = 0;
        static final int WORD = 1;
        static final int NUMBER = 2;
        static final int SIGN = 3;

        final byte[] tape = new byte[MOST_FED];
        int fed;
        int textEnd;
        int token;
        int tokenAt;
        int tokenEnd;

        final int[] kinds = new int[MOST_ACTS];
        final int[] numbers = new int[MOST_ACTS * NUMBERS];
        final long[] amounts = new long[MOST_ACTS];
        int acts;
        int wrong;
        int wrongAt = NONE;

        boolean hasRoom() {
            return fed + FED_AT_ONCE <= tape.length;
        }

        void put(int four) {
            for (int shift = 24; shift >= 0 && fed < tape.length; shift -= 8) {
                tape[fed] = (byte) (four >> shift);
                fed++;
            }
        }

        int kind(int i) {
            return i >= 0 && i < acts ? kinds[i] : NONE;
        }

        int number(int i, int which) {
            return i >= 0 && i < acts && which >= 0 && which < NUMBERS
                    ? numbers[NUMBERS * i + which] : NONE;
        }

        long amount(int i) {
            return i >= 0 && i < acts ? amounts[i] : 0;
        }

        /** Of the first n bytes on the tape: their FAULT, 0 if there is none. */
        int read(int n) {
            textEnd = Math.max(0, Math.min(n, fed));
            tokenEnd = 0;
            acts = 0;
            wrong = 0;
            wrongAt = NONE;
            step();
            for (int i = 0; i <= MOST_ACTS && token != THE_END && wrong == 0; i++) {
                readAct();
            }
            return wrong;
        }

        void readAct() {
            int kind = kindOfWord();
            if (kind == NONE) {
                blame(CANT_STAND);
                return;
            }
            if (acts >= MOST_ACTS) {
                blame(ONE_TOO_MANY);
                return;
            }
            step();
            kinds[acts] = kind;
            if (kind == ADD || kind == PICK) {
                readPlace();
                amounts[acts] = kind == ADD ? readAdded() : readNumber(1, MOST_UNITS);
            }
            if (!isSign(';')) {
                blame(CANT_STAND);
                return;
            }
            step();
            acts++;
        }

        void readPlace() {
            for (int i = 0; i < NUMBERS; i++) {
                numbers[NUMBERS * acts + i] = (int) readNumber(0, i == 0 ? GOODS - 1 : MOST_PLACE);
            }
        }

        long readAdded() {
            if (!isSign('-')) {
                return readNumber(1, MOST_ADDED);
            }
            step();
            return -readNumber(1, MOST_ADDED);
        }

        long readNumber(long least, long most) {
            if (token != NUMBER) {
                blame(CANT_STAND);
                return 0;
            }
            long number = numberOfToken();
            if (tokenEnd - tokenAt > MOST_DIGITS || number < least || number > most) {
                blame(OUT_OF_BOUNDS);
                return 0;
            }
            step();
            return number;
        }

        /** Only the first fault counts: behind it nothing is read any more. */
        void blame(int what) {
            if (wrong == 0) {
                wrong = what;
                wrongAt = tokenAt;
            }
        }

        void step() {
            if (wrong != 0) {
                return;
            }
            tokenAt = tokenEnd;
            while (tokenAt < textEnd && tape[tokenAt] == ' ') {
                tokenAt++;
            }
            tokenEnd = tokenAt;
            token = kindOfByte(tokenAt);
            if (token == SIGN) {
                tokenEnd++;
            } else if (token != THE_END) {
                while (tokenEnd < textEnd && kindOfByte(tokenEnd) == token) {
                    tokenEnd++;
                }
            }
        }

        int kindOfByte(int place) {
            if (place < 0 || place >= textEnd) {
                return THE_END;
            }
            int sign = tape[place];
            if (sign >= 'a' && sign <= 'z') {
                return WORD;
            }
            return sign >= '0' && sign <= '9' ? NUMBER : SIGN;
        }

        boolean isSign(char sign) {
            return token == SIGN && tape[tokenAt] == sign;
        }

        int kindOfWord() {
            if (token != WORD) {
                return NONE;
            }
            if (isWord("add")) {
                return ADD;
            }
            if (isWord("pick")) {
                return PICK;
            }
            if (isWord("begin")) {
                return BEGIN;
            }
            if (isWord("commit")) {
                return COMMIT;
            }
            return isWord("cancel") ? CANCEL : NONE;
        }

        boolean isWord(String word) {
            if (tokenEnd - tokenAt != word.length()) {
                return false;
            }
            for (int i = 0; i < word.length(); i++) {
                if (tape[tokenAt + i] != word.charAt(i)) {
                    return false;
                }
            }
            return true;
        }

        long numberOfToken() {
            long number = 0;
            for (int i = tokenAt; i < tokenEnd; i++) {
                if (number > LAST_TO_GROW) {
                    return BEYOND_ALL;
                }
                number = 10 * number + (tape[i] - '0');
            }
            return number;
        }
    }
}
