import java.util.Arrays;

/** Prints of two potatoes on a sheet: the class that shared/DOC.md tells, promise by promise. */
public final class PotatoPrints {
    public static final int NONE = -1, BAD = -2, NO = -3, FULL = -4;

    // cover, which and a fault of read have numbers of their own, so that none is mistaken for NONE or BAD.
    private static final int BELOW_ALL = -10;
    private static final int LAST_POTATO = 1, LAST_TURN = 3, LAST_KIND = 5, LAST_PLACE = 7, LAST_CELL = 63;
    private static final int MOST_PAINT = 12, DARKEST = 9, ALL_UP = 65535;
    private static final int LAST_BYTE = 127, MOST_DIPPED = 60, SHORTEST_EDGE = 4, LONGEST_EDGE = 99, WIDEST_GAP = 9;
    private static final int MOST_HOURS = 4, MOST_SLIPS = 5, LAST_SEED = 999999, MOST_SHEETS = 30;
    private static final int LAST_IMAGE = 1, LAST_COUNT = 5;
    private static final int PLACINGS = 256;

    private final Table now = new Table();
    // What is read, or printed by a seed, is tried here first, so that the table itself stays.
    private final Table draft = new Table();
    private final Table[] images = new Table[LAST_IMAGE + 1];
    private final Text text = new Text();
    // Where each of the placings of one potato prints, used again by every call that tries them all.
    private final long[] placed = new long[PLACINGS];
    private long above = 0;
    private long below = 1;
    private int badCalls = 0;
    private int noCalls = 0;
    private int fullCalls = 0;

    public PotatoPrints() {
    }

    // ---- a table

    public int table(int paint) {
        if (!within(paint, 0, MOST_PAINT)) {
            return refuseBad(BAD);
        }
        int were = Long.bitCount(now.darkCells());
        now.beginAnew(paint);
        return were;
    }

    public int cut(int k, int cells) {
        if (!within(k, 0, LAST_POTATO) || !within(cells, 0, ALL_UP)) {
            return refuseBad(BAD);
        }
        int was = now.potatoes[k];
        now.potatoes[k] = cells;
        now.undoCount = 0;
        return was;
    }

    public int dip(int n) {
        if (!within(n, 0, MOST_PAINT)) {
            return refuseBad(BAD);
        }
        int was = now.paint;
        now.remember();
        now.paint = n;
        return was;
    }

    public int print(int kind, int k, int x, int y, int t) {
        if (!isPrint(kind, k, x, y, t)) {
            return refuseBad(BAD);
        }
        if (now.paint == 0) {
            return refuseNo();
        }
        now.remember();
        return now.putPrint(kind, k, x, y, t);
    }

    public int undo() {
        if (now.undoCount == 0) {
            return refuseNo();
        }
        now.stepBack();
        return now.paint;
    }

    public int type(int c) {
        if (!within(c, 0, LAST_BYTE)) {
            return refuseBad(BAD);
        }
        if (text.length >= Text.MOST_BYTES) {
            return refuseFull();
        }
        text.addByte(c);
        return text.length;
    }

    public int clear() {
        int had = text.length;
        text.length = 0;
        return had;
    }

    public int read() {
        int items = text.readInto(draft);
        if (items < 0) {
            return items;
        }
        now.takeOver(draft);
        return items;
    }

    public int dark(int x, int y) {
        if (!isPlace(x, y)) {
            return refuseBad(BAD);
        }
        return now.sheet[8 * y + x];
    }

    // ---- looks, prints

    public int looks(int k, int t) {
        if (!within(k, 0, LAST_POTATO) || !within(t, 0, LAST_TURN)) {
            return refuseBad(BAD);
        }
        return Shape.printed(now.potatoes[k], t);
    }

    public int alike(int k) {
        if (!within(k, 0, LAST_POTATO)) {
            return refuseBad(BAD);
        }
        int unturned = Shape.printed(now.potatoes[k], 0);
        int turns = 0;
        for (int t = 0; t <= LAST_TURN; t++) {
            if (Shape.printed(now.potatoes[k], t) == unturned) {
                turns |= 1 << t;
            }
        }
        return turns;
    }

    public int adds(int kind, int k, int x, int y, int t) {
        if (!isPrint(kind, k, x, y, t)) {
            return refuseBad(BAD);
        }
        if (now.paint == 0) {
            return refuseNo();
        }
        draft.takeOverPrints(now);
        return draft.putPrint(kind, k, x, y, t);
    }

    public int force(int kind, int p, int what) {
        if (!isDip(kind, p) || !within(what, 0, 1)) {
            return refuseBad(BAD);
        }
        return what == 0 ? Kind.darkness(kind, p) : Kind.paintTaken(kind, p);
    }

    public int fromOne(int kind, int p, int d) {
        if (!isDip(kind, p) || !within(d, 1, DARKEST)) {
            return refuseBad(BAD);
        }
        return Kind.printsOfOneDip(kind, p, d);
    }

    public int dips(int kind, int p, int d, int n) {
        if (!isDip(kind, p) || !within(d, 1, DARKEST) || !within(n, 0, MOST_DIPPED)) {
            return refuseBad(BAD);
        }
        if (n == 0) {
            return 0;
        }
        int each = Kind.printsOfOneDip(kind, p, d);
        return each > 0 ? (n + each - 1) / each : NONE;
    }

    public int edge(int length, int g, int what) {
        if (!within(length, SHORTEST_EDGE, LONGEST_EDGE) || !within(g, 0, WIDEST_GAP) || !within(what, 0, 1)) {
            return refuseBad(BAD);
        }
        return what == 0 ? wholePrints(length, g) : leftOfEdge(length, g);
    }

    public int gap(int length) {
        if (!within(length, SHORTEST_EDGE, LONGEST_EDGE)) {
            return refuseBad(BAD);
        }
        int best = 0;
        for (int g = 1; g <= WIDEST_GAP; g++) {
            if (leftOfEdge(length, g) < leftOfEdge(length, best)) {
                best = g;
            }
        }
        return best;
    }

    public int hit(int k, int what) {
        if (!within(k, 0, LAST_POTATO) || !within(what, 0, 1)) {
            return refuseBad(BAD);
        }
        placeEverywhere(now.potatoes[k]);
        long inked = now.darkCells();
        int most = 0;
        int best = NONE;
        for (int i = 0; i < PLACINGS; i++) {
            int covered = Long.bitCount(placed[i] & inked);
            if (isWhollyOnSheet(i) && covered > most) {
                most = covered;
                best = placingNumber(i);
            }
        }
        return what == 0 && most > 0 ? most : best;
    }

    public int want(int x, int y) {
        if (!isPlace(x, y)) {
            return refuseBad(BAD);
        }
        if (now.wantedCount >= Table.MOST_KEPT) {
            return refuseFull();
        }
        now.wanted[now.wantedCount] = 8 * y + x;
        now.wantedCount++;
        return now.wantedCount;
    }

    public int cover(int k, int what) {
        if (!within(k, 0, LAST_POTATO) || !within(what, 0, 1)) {
            return refuseBad(BELOW_ALL);
        }
        long wanted = now.wantedCells();
        if (wanted == 0) {
            return what == 0 ? 0 : NONE;
        }
        placeEverywhere(now.potatoes[k]);
        int one = firstCovering(wanted);
        if (one != NONE) {
            return what == 0 ? 1 : one;
        }
        int ofTwo = firstOfTwoCovering(wanted);
        return what == 0 && ofTwo != NONE ? 2 : ofTwo;
    }

    public int shrinks(int k, int h) {
        if (!within(k, 0, LAST_POTATO) || !within(h, 0, MOST_HOURS)) {
            return refuseBad(BAD);
        }
        int cells = now.potatoes[k];
        for (int hour = 0; hour < h; hour++) {
            cells = Shape.shrunk(cells);
        }
        return cells;
    }

    public int gone(int k) {
        if (!within(k, 0, LAST_POTATO)) {
            return refuseBad(BAD);
        }
        int cells = now.potatoes[k];
        int hours = 0;
        // A rim goes each hour, so of 4 by 4 nothing can be left behind MOST_HOURS.
        while (cells != 0 && hours < MOST_HOURS) {
            cells = Shape.shrunk(cells);
            hours++;
        }
        return hours;
    }

    // ---- what was seen

    public int seen(int x, int y, int inked) {
        if (!isPlace(x, y) || !within(inked, 0, 1)) {
            return refuseBad(BAD);
        }
        if (now.seenCount >= Table.MOST_KEPT) {
            return refuseFull();
        }
        now.seenCells[now.seenCount] = 8 * y + x;
        now.seenInked[now.seenCount] = inked;
        now.seenCount++;
        return now.seenCount;
    }

    public int forget(int what) {
        if (!within(what, 0, 1)) {
            return refuseBad(BAD);
        }
        int were;
        if (what == 0) {
            were = now.wantedCount;
            now.wantedCount = 0;
        } else {
            were = now.seenCount;
            now.seenCount = 0;
        }
        return were;
    }

    public int which(int k, int what) {
        if (!within(k, 0, LAST_POTATO) || !within(what, 0, 1)) {
            return refuseBad(BELOW_ALL);
        }
        placeEverywhere(now.potatoes[k]);
        long inked = now.seenCellsOf(1);
        long blank = now.seenCellsOf(0);
        int fitting = 0;
        int first = NONE;
        for (int i = 0; i < PLACINGS; i++) {
            if (fits(placed[i], inked, blank)) {
                if (fitting == 0) {
                    first = placingNumber(i);
                }
                fitting++;
            }
        }
        return what == 0 ? fitting : first;
    }

    public int look(int k) {
        if (!within(k, 0, LAST_POTATO)) {
            return refuseBad(BAD);
        }
        placeEverywhere(now.potatoes[k]);
        int fitting = keepFitting();
        if (fitting == 0) {
            return NONE;
        }
        int best = 0;
        int least = fitting + 1;
        for (int cell = 0; cell <= LAST_CELL; cell++) {
            int inked = howManyInk(cell, fitting);
            int greater = Math.max(inked, fitting - inked);
            if (greater < least) {
                least = greater;
                best = cell;
            }
        }
        return best;
    }

    public int bitten(int k, int x, int y, int t, int what) {
        if (!isPrint(Kind.PLAIN, k, x, y, t) || !within(what, 0, 1)) {
            return refuseBad(BAD);
        }
        int cells = now.potatoes[k];
        if (what == 0) {
            return cutAway(cells, x, y, t);
        }
        long printed = Shape.placed(Shape.printed(cells, t), x, y);
        return (now.seenCellsOf(1) & ~printed) == 0 ? 1 : 0;
    }

    public int slips(int kind, int k, int x, int y, int n, int c, int cell) {
        if (!isPrint(kind, k, x, y, 0) || !within(n, 0, MOST_SLIPS) || !within(c, 0, 10)
                || !within(cell, 0, LAST_CELL)) {
            return refuseBad(BAD);
        }
        int shape = Shape.printed(now.potatoes[k], 0);
        int paint = now.paint;
        long missed = 1;
        long all = 1;
        for (int i = 0; i < n; i++) {
            int hits = 0;
            if (Kind.inks(kind, paint, shape, x, y, cell)) {
                hits += 10 - c;
            }
            if (Kind.inks(kind, paint, shape, x + 1, y, cell)) {
                hits += c;
            }
            missed *= 10 - hits;
            all *= 10;
            paint -= Kind.paintTaken(kind, paint);
        }
        setFraction(all - missed, all);
        return 1;
    }

    public int sheets(int seed, int n) {
        if (!within(seed, 0, LAST_SEED) || !within(n, 0, MOST_SHEETS)) {
            return refuseBad(BAD);
        }
        draft.takeOverPrints(now);
        long number = seed;
        for (int i = 0; i < n; i++) {
            number = nextNumber(number);
            int kind = drawn(number, LAST_KIND);
            number = nextNumber(number);
            int k = drawn(number, LAST_POTATO);
            number = nextNumber(number);
            int place = drawn(number, LAST_CELL);
            number = nextNumber(number);
            int t = drawn(number, LAST_TURN);
            if (draft.paint == 0) {
                draft.paint = MOST_PAINT;
            }
            draft.putPrint(kind, k, place % 8, place / 8, t);
        }
        return draft.darknessInAll();
    }

    // ---- what there is

    public long part(int what) {
        if (!within(what, 0, 1)) {
            return refuseBad(BAD);
        }
        return what == 0 ? above : below;
    }

    public int image(int i) {
        if (!within(i, 0, LAST_IMAGE)) {
            return refuseBad(BAD);
        }
        Table kept = images[i];
        if (kept == null) {
            kept = new Table();
            images[i] = kept;
        }
        kept.takeOver(now);
        return 1;
    }

    public int from(int i) {
        if (!within(i, 0, LAST_IMAGE)) {
            return refuseBad(BAD);
        }
        Table kept = images[i];
        if (kept == null) {
            return refuseNo();
        }
        now.takeOver(kept);
        return 1;
    }

    public int status(int what) {
        switch (what) {
            case 0:
                return badCalls;
            case 1:
                return noCalls;
            case 2:
                return fullCalls;
            default:
                return refuseBad(-1);
        }
    }

    public int count(int what) {
        if (!within(what, 0, LAST_COUNT)) {
            return refuseBad(BAD);
        }
        return howMany(what);
    }

    public long digest() {
        long h = 1021;
        for (int what = 0; what <= LAST_COUNT; what++) {
            h = 31 * h + howMany(what);
        }
        for (int k = 0; k <= LAST_POTATO; k++) {
            h = 31 * h + now.potatoes[k];
        }
        for (int cell = 0; cell <= LAST_CELL; cell++) {
            h = 31 * h + now.sheet[cell];
        }
        for (int i = 0; i < now.wantedCount; i++) {
            h = 31 * h + now.wanted[i];
        }
        for (int i = 0; i < now.seenCount; i++) {
            h = 31 * h + now.seenCells[i];
            h = 31 * h + now.seenInked[i];
        }
        h = 31 * h + above;
        return 31 * h + below;
    }

    private int refuseBad(int answer) {
        badCalls++;
        return answer;
    }

    private int refuseNo() {
        noCalls++;
        return NO;
    }

    private int refuseFull() {
        fullCalls++;
        return FULL;
    }

    private static boolean within(int number, int least, int most) {
        return number >= least && number <= most;
    }

    private static boolean isPlace(int x, int y) {
        return within(x, 0, LAST_PLACE) && within(y, 0, LAST_PLACE);
    }

    private static boolean isPrint(int kind, int k, int x, int y, int t) {
        return within(kind, 0, LAST_KIND) && within(k, 0, LAST_POTATO) && isPlace(x, y) && within(t, 0, LAST_TURN);
    }

    private static boolean isDip(int kind, int p) {
        return within(kind, 0, LAST_KIND) && within(p, 0, MOST_PAINT);
    }

    // The last print needs no gap behind it, so one more gap is put to the edge.
    private static int wholePrints(int length, int g) {
        int step = 4 + g;
        return step > 0 ? (length + g) / step : 0;
    }

    private static int leftOfEdge(int length, int g) {
        int whole = wholePrints(length, g);
        return length + g - whole * (4 + g);
    }

    // Placing i is turn i / 64 at row i / 8 % 8, column i % 8: rising as 100 t and 10 y and x do.
    private void placeEverywhere(int cells) {
        for (int t = 0; t <= LAST_TURN; t++) {
            int shape = Shape.printed(cells, t);
            for (int cell = 0; cell <= LAST_CELL; cell++) {
                placed[64 * t + cell] = Shape.placed(shape, cell % 8, cell / 8);
            }
        }
    }

    private static int placingNumber(int i) {
        return 100 * (i / 64) + 10 * (i / 8 % 8) + i % 8;
    }

    private static boolean isWhollyOnSheet(int i) {
        return i / 8 % 8 <= 4 && i % 8 <= 4;
    }

    private int firstCovering(long wanted) {
        for (int i = 0; i < PLACINGS; i++) {
            if ((wanted & ~placed[i]) == 0) {
                return placingNumber(i);
            }
        }
        return NONE;
    }

    // Asked where no single print covers all, so one that covers none is in no such two.
    private int firstOfTwoCovering(long wanted) {
        for (int i = 0; i < PLACINGS; i++) {
            if ((wanted & placed[i]) != 0 && firstCovering(wanted & ~placed[i]) != NONE) {
                return placingNumber(i);
            }
        }
        return NONE;
    }

    private static boolean fits(long print, long inked, long blank) {
        return (inked & ~print) == 0 && (blank & print) == 0;
    }

    private int keepFitting() {
        long inked = now.seenCellsOf(1);
        long blank = now.seenCellsOf(0);
        int fitting = 0;
        for (int i = 0; i < PLACINGS; i++) {
            if (fits(placed[i], inked, blank)) {
                placed[fitting] = placed[i];
                fitting++;
            }
        }
        return fitting;
    }

    private int howManyInk(int cell, int fitting) {
        int inking = 0;
        for (int i = 0; i < fitting && i < PLACINGS; i++) {
            if ((placed[i] >>> cell & 1) == 1) {
                inking++;
            }
        }
        return inking;
    }

    private int cutAway(int cells, int x, int y, int t) {
        long blank = now.seenCellsOf(0);
        int away = 0;
        for (int i = 0; i < Shape.CELLS; i++) {
            int one = cells & 1 << i;
            if ((Shape.placed(Shape.printed(one, t), x, y) & blank) != 0) {
                away |= one;
            }
        }
        return away;
    }

    private void setFraction(long over, long under) {
        long divisor = under;
        long rest = over;
        // Euclid's way ends far sooner for numbers up to 100000.
        for (int i = 0; i < 100 && rest > 0; i++) {
            long next = divisor % rest;
            divisor = rest;
            rest = next;
        }
        if (divisor > 0) {
            above = over / divisor;
            below = under / divisor;
        }
    }

    private static long nextNumber(long number) {
        return (number * 1103515245L + 12345L) % 2147483648L;
    }

    private static int drawn(long number, int last) {
        return last < 0 ? 0 : (int) (number / 65536L % (last + 1));
    }

    private int howMany(int what) {
        switch (what) {
            case 0:
                return Long.bitCount(now.darkCells());
            case 1:
                return now.paint;
            case 2:
                return now.wantedCount;
            case 3:
                return now.seenCount;
            case 4:
                return now.undoCount;
            default:
                return text.length;
        }
    }

    /** What a potato's cells come to: bits 4 y and x as it lies or prints, bits 8 y and x on the sheet. */
    private static final class Shape {
        private static final int SIDE = 4, CELLS = 16, SHEET_SIDE = 8;

        private Shape() {
        }

        private static int printed(int cells, int t) {
            int shape = mirrored(cells);
            for (int i = 0; i < t && i <= LAST_TURN; i++) {
                shape = turnedOnce(shape);
            }
            return shape;
        }

        private static int mirrored(int cells) {
            int shape = 0;
            for (int i = 0; i < CELLS; i++) {
                if ((cells >>> i & 1) == 1) {
                    shape |= bitOf(3 - i % SIDE, i / SIDE);
                }
            }
            return shape;
        }

        private static int turnedOnce(int cells) {
            int shape = 0;
            for (int i = 0; i < CELLS; i++) {
                if ((cells >>> i & 1) == 1) {
                    shape |= bitOf(3 - i / SIDE, i % SIDE);
                }
            }
            return shape;
        }

        private static int shrunk(int cells) {
            int shape = 0;
            for (int y = 0; y < SIDE; y++) {
                for (int x = 0; x < SIDE; x++) {
                    boolean isInside = isUp(cells, x - 1, y) && isUp(cells, x + 1, y)
                            && isUp(cells, x, y - 1) && isUp(cells, x, y + 1);
                    if (isUp(cells, x, y) && isInside) {
                        shape |= bitOf(x, y);
                    }
                }
            }
            return shape;
        }

        /** The cells of the sheet that a shape comes on; what comes beyond it is lost. */
        private static long placed(int shape, int column, int row) {
            long cells = 0;
            for (int i = 0; i < CELLS; i++) {
                int x = column + i % SIDE;
                int y = row + i / SIDE;
                if ((shape >>> i & 1) == 1 && x < SHEET_SIDE && y < SHEET_SIDE) {
                    cells |= 1L << SHEET_SIDE * y + x;
                }
            }
            return cells;
        }

        private static boolean isUp(int cells, int x, int y) {
            return within(x, 0, SIDE - 1) && within(y, 0, SIDE - 1) && (cells & bitOf(x, y)) != 0;
        }

        private static int bitOf(int x, int y) {
            return 1 << SIDE * y + x;
        }
    }

    /** The kinds of prints: how dark, how much paint, what comes where. */
    private static final class Kind {
        private static final int PLAIN = 0, HARD = 1, PALE = 2, SLID = 3, HOLED = 4, SMEARED = 5;
        private static final int WETTEST_THAT_STAYS = 8, DRIEST_THAT_FILLS = 4;
        // Cells of the sheet whose column and row together are even: rows 0x55 and 0xAA by turns.
        private static final long EVEN_CELLS = 0xAA55AA55AA55AA55L;

        private Kind() {
        }

        private static int darkness(int kind, int p) {
            int plain = Math.min(p, DARKEST);
            if (plain <= 0) {
                return 0;
            }
            int hard = Math.min(plain + 2, DARKEST);
            switch (kind) {
                case HARD:
                case SLID:
                    return hard;
                case PALE:
                case HOLED:
                    return (plain + 1) / 2;
                case SMEARED:
                    return hard - 1;
                default:
                    return plain;
            }
        }

        private static boolean isHard(int kind) {
            return kind == HARD || kind == SLID || kind == SMEARED;
        }

        private static int paintTaken(int kind, int p) {
            return Math.min(isHard(kind) ? 2 : 1, p);
        }

        private static int printsOfOneDip(int kind, int p, int d) {
            int paint = p;
            int prints = 0;
            while (paint > 0 && prints < MOST_PAINT && darkness(kind, paint) >= d) {
                paint -= paintTaken(kind, paint);
                prints++;
            }
            return prints;
        }

        private static int slidColumn(int kind, int p, int x) {
            boolean isSlid = kind == SLID || kind == SMEARED;
            return isSlid && p > WETTEST_THAT_STAYS ? x + 1 : x;
        }

        /** The cells that come as dark as the print is. */
        private static long fullCells(int kind, int p, int shape, int x, int y) {
            long cells = Shape.placed(shape, slidColumn(kind, p, x), y);
            boolean hasHoles = kind == HOLED && p < DRIEST_THAT_FILLS;
            return hasHoles ? cells & EVEN_CELLS : cells;
        }

        /** The cells of a smear, half as dark; some may be full ones, too. */
        private static long halfCells(int kind, int p, int shape, int x, int y) {
            return kind == SMEARED ? Shape.placed(shape, slidColumn(kind, p, x) + 1, y) : 0;
        }

        private static boolean inks(int kind, int p, int shape, int x, int y, int cell) {
            int full = darkness(kind, p);
            long inked = full > 0 ? fullCells(kind, p, shape, x, y) : 0;
            if (full / 2 > 0) {
                inked |= halfCells(kind, p, shape, x, y);
            }
            return (inked >>> cell & 1) == 1;
        }
    }

    /** All that an image keeps. */
    private static final class Table {
        private static final int MOST_KEPT = 8, MOST_UNDONE = 8, CELLS = 64;

        private final int[] potatoes = new int[LAST_POTATO + 1];
        private final int[] sheet = new int[CELLS];
        private int paint = 0;
        private final int[] wanted = new int[MOST_KEPT];
        private int wantedCount = 0;
        private final int[] seenCells = new int[MOST_KEPT];
        private final int[] seenInked = new int[MOST_KEPT];
        private int seenCount = 0;
        // Sheets one behind the other, the oldest first, with the paint that was there.
        private final int[] undoSheets = new int[MOST_UNDONE * CELLS];
        private final int[] undoPaints = new int[MOST_UNDONE];
        private int undoCount = 0;

        private void beginAnew(int newPaint) {
            Arrays.fill(potatoes, 0);
            Arrays.fill(sheet, 0);
            paint = newPaint;
            wantedCount = 0;
            seenCount = 0;
            undoCount = 0;
        }

        private void takeOver(Table other) {
            takeOverPrints(other);
            System.arraycopy(other.wanted, 0, wanted, 0, MOST_KEPT);
            wantedCount = other.wantedCount;
            System.arraycopy(other.seenCells, 0, seenCells, 0, MOST_KEPT);
            System.arraycopy(other.seenInked, 0, seenInked, 0, MOST_KEPT);
            seenCount = other.seenCount;
            System.arraycopy(other.undoSheets, 0, undoSheets, 0, MOST_UNDONE * CELLS);
            System.arraycopy(other.undoPaints, 0, undoPaints, 0, MOST_UNDONE);
            undoCount = other.undoCount;
        }

        private void takeOverPrints(Table other) {
            System.arraycopy(other.potatoes, 0, potatoes, 0, LAST_POTATO + 1);
            System.arraycopy(other.sheet, 0, sheet, 0, CELLS);
            paint = other.paint;
        }

        private void remember() {
            if (undoCount >= MOST_UNDONE) {
                System.arraycopy(undoSheets, CELLS, undoSheets, 0, (MOST_UNDONE - 1) * CELLS);
                System.arraycopy(undoPaints, 1, undoPaints, 0, MOST_UNDONE - 1);
                undoCount = MOST_UNDONE - 1;
            }
            System.arraycopy(sheet, 0, undoSheets, undoCount * CELLS, CELLS);
            undoPaints[undoCount] = paint;
            undoCount++;
        }

        private void stepBack() {
            if (undoCount > 0) {
                undoCount--;
                System.arraycopy(undoSheets, undoCount * CELLS, sheet, 0, CELLS);
                paint = undoPaints[undoCount];
            }
        }

        /** Prints and takes the paint; without paint it makes nothing. */
        private int putPrint(int kind, int k, int x, int y, int t) {
            int shape = Shape.printed(potatoes[k], t);
            int dark = Kind.darkness(kind, paint);
            long full = Kind.fullCells(kind, paint, shape, x, y);
            long half = Kind.halfCells(kind, paint, shape, x, y);
            paint -= Kind.paintTaken(kind, paint);
            return darken(full, dark) + darken(half & ~full, dark / 2);
        }

        private int darken(long cells, int dark) {
            int darker = 0;
            for (int cell = 0; cell < CELLS; cell++) {
                if ((cells >>> cell & 1) == 1 && dark > sheet[cell]) {
                    sheet[cell] = dark;
                    darker++;
                }
            }
            return darker;
        }

        private long darkCells() {
            long cells = 0;
            for (int cell = 0; cell < CELLS; cell++) {
                if (sheet[cell] > 0) {
                    cells |= 1L << cell;
                }
            }
            return cells;
        }

        private int darknessInAll() {
            int sum = 0;
            for (int cell = 0; cell < CELLS; cell++) {
                sum += sheet[cell];
            }
            return sum;
        }

        private long wantedCells() {
            long cells = 0;
            for (int i = 0; i < wantedCount; i++) {
                cells |= 1L << wanted[i];
            }
            return cells;
        }

        private long seenCellsOf(int inked) {
            long cells = 0;
            for (int i = 0; i < seenCount; i++) {
                if (seenInked[i] == inked) {
                    cells |= 1L << seenCells[i];
                }
            }
            return cells;
        }
    }

    /** The text, and the table that it tells. */
    private static final class Text {
        private static final int MOST_BYTES = 150;
        private static final int END = 0, WORD = 1, NUMBER = 2, SEMICOLON = 3, WRONG = 4;
        private static final int TABLE = 0, POTATO = 1, PRINT = 2;
        private static final int[] TABLE_LIMITS = {MOST_PAINT};
        private static final int[] POTATO_LIMITS = {LAST_POTATO, 15, 15, 15, 15};
        private static final int[] PRINT_LIMITS = {LAST_KIND, LAST_POTATO, LAST_PLACE, LAST_PLACE, LAST_TURN};

        private final byte[] bytes = new byte[MOST_BYTES];
        private int length = 0;
        // The token at hand: from start to ahead of end, which word or number it is.
        private int start = 0;
        private int end = 0;
        private int token = END;
        private int value = 0;
        private final int[] numbers = new int[5];

        private void addByte(int c) {
            if (length < MOST_BYTES) {
                bytes[length] = (byte) c;
                length++;
            }
        }

        /** How many items; or -10 less the fault, and the table is then half made. */
        private int readInto(Table made) {
            end = 0;
            int items = 0;
            // Each round takes a token at least, so the text ends within its bytes.
            for (int round = 0; round <= MOST_BYTES; round++) {
                nextToken();
                if (token == END && items > 0) {
                    return items;
                }
                int word = value;
                if (token != WORD || (word == TABLE) != (items == 0) || !numbersStand(limitsOf(word))) {
                    return BELOW_ALL - start;
                }
                nextToken();
                if (token != SEMICOLON) {
                    return BELOW_ALL - start;
                }
                putItem(word, made);
                items++;
            }
            return items;
        }

        private static int[] limitsOf(int word) {
            switch (word) {
                case TABLE:
                    return TABLE_LIMITS;
                case POTATO:
                    return POTATO_LIMITS;
                default:
                    return PRINT_LIMITS;
            }
        }

        private boolean numbersStand(int[] limits) {
            for (int i = 0; i < limits.length && i < numbers.length; i++) {
                nextToken();
                if (token != NUMBER || value > limits[i]) {
                    return false;
                }
                numbers[i] = value;
            }
            return true;
        }

        private void putItem(int word, Table made) {
            switch (word) {
                case TABLE:
                    made.beginAnew(numbers[0]);
                    break;
                case POTATO:
                    made.potatoes[numbers[0]] = numbers[1] | numbers[2] << 4 | numbers[3] << 8 | numbers[4] << 12;
                    break;
                default:
                    made.putPrint(numbers[0], numbers[1], numbers[2], numbers[3], numbers[4]);
                    break;
            }
        }

        private void nextToken() {
            start = end;
            while (start < length && bytes[start] == ' ') {
                start++;
            }
            end = start;
            if (start >= length) {
                token = END;
            } else if (bytes[start] == ';') {
                token = SEMICOLON;
                end = start + 1;
            } else if (isWithin(start, 'a', 'z')) {
                takeWord();
            } else if (isWithin(start, '0', '9')) {
                takeNumber();
            } else {
                token = WRONG;
            }
        }

        private boolean isWithin(int at, char first, char last) {
            return at < length && bytes[at] >= first && bytes[at] <= last;
        }

        private void takeWord() {
            while (end < length && isWithin(end, 'a', 'z')) {
                end++;
            }
            token = WORD;
            if (isTheWord("table")) {
                value = TABLE;
            } else if (isTheWord("potato")) {
                value = POTATO;
            } else if (isTheWord("print")) {
                value = PRINT;
            } else {
                token = WRONG;
            }
        }

        private boolean isTheWord(String word) {
            if (end - start != word.length()) {
                return false;
            }
            for (int i = 0; i < word.length(); i++) {
                if (start + i >= length || bytes[start + i] != word.charAt(i)) {
                    return false;
                }
            }
            return true;
        }

        private void takeNumber() {
            value = 0;
            while (end < length && isWithin(end, '0', '9')) {
                // A third figure makes it wrong, whatever its value is; the wrapping of a long one does no harm.
                value = 10 * value + bytes[end] - '0';
                end++;
            }
            token = end - start <= 2 ? NUMBER : WRONG;
        }
    }
}
