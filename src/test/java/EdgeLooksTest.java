/** Promises 11 to 23, sentence by sentence: the quoted words are the document's. */
public final class EdgeLooksTest {
    private static final int NONE = PotatoPrints.NONE, ALL_UP = 65535;
    // The cell that prints, not turned, at column and row 0; with BAR, at column 1 too.
    private static final int SINGLE = 8, BAR = 12;

    public static void main(String[] args) {
        looksOfTheCorners();
        looksOfNothingAndAll();
        printOfAPrintIsAsItLay();
        alikeOneTwoOrFour();
        addsIsWhatPrintMakes();
        forceAtTheLimits();
        fromOneAtTheLimits();
        dipsAtTheLimits();
        edgeJustWholeAndOneShort();
        edgeAtTheLimits();
        gapOfLikeOnesTheLeast();
        hitWithinTheSheet();
        hitOfLikeOnesTheFirst();
        hitNone();
        wantUpToEight();
        coverNoneOneTwo();
        coverAtTheCorners();
        coverDoesNotWrapAround();
        coverTheLeastOfTwo();
        paintDoesNotMatter();
        shrinksHourByHour();
        goneBehindHours();
        Due.end("EdgeLooksTest");
    }

    private static PotatoPrints with(int cells) {
        PotatoPrints p = new PotatoPrints();
        p.cut(0, cells);
        return p;
    }

    /** A sheet on which one cell is dark, by 1; potato 0 as told. */
    private static PotatoPrints darkAt(int x, int y, int cells) {
        PotatoPrints p = with(SINGLE);
        p.dip(1);
        p.print(0, 0, x, y, 0);
        p.cut(0, cells);
        Due.same("one cell is dark", p.count(0), 1);
        return p;
    }

    // Promise 11: mirrored ("column x is 3 less x"), then turned ("what is in column x, row y comes to column 3 less y,
    // row x"): a corner goes on to the next corner, to the right.
    private static void looksOfTheCorners() {
        int[][] bitThenByTurns = {{0, 3, 15, 12, 0}, {3, 0, 3, 15, 12}, {15, 12, 0, 3, 15}, {12, 15, 12, 0, 3},
            {1, 2, 11, 13, 4}, {5, 6, 10, 9, 5}, {7, 4, 2, 11, 13}, {14, 13, 4, 2, 11}};
        for (int[] b : bitThenByTurns) {
            for (int k = 0; k < 2; k++) {
                PotatoPrints p = new PotatoPrints();
                p.cut(k, 1 << b[0]);
                for (int t = 0; t < 4; t++) {
                    Due.same("bit " + b[0] + " turned " + t, p.looks(k, t), 1 << b[1 + t]);
                    Due.same("the other", p.looks(1 - k, t), 0);
                }
            }
        }
    }

    private static void looksOfNothingAndAll() {
        for (int t = 0; t < 4; t++) {
            Due.same("nothing", with(0).looks(0, t), 0);
            Due.same("all", with(ALL_UP).looks(0, t), ALL_UP);
            Due.same("all but one keeps fifteen", Integer.bitCount(with(ALL_UP - 1).looks(0, t)), 15);
        }
        Due.same("turned 4 is not as told", with(ALL_UP).looks(0, 4), PotatoPrints.BAD);
        Due.same("turned -1 is not as told", with(ALL_UP).looks(0, -1), PotatoPrints.BAD);
    }

    // A potato cut as another one looks, turned as that one was, looks as that one lies: the mirror turns it back.
    private static void printOfAPrintIsAsItLay() {
        for (int cells = 0; cells <= ALL_UP; cells += 257) {
            for (int t = 0; t < 4; t++) {
                PotatoPrints p = with(cells);
                p.cut(1, p.looks(0, t));
                Due.same("mirrored and turned twice by " + t, p.looks(1, t), cells);
            }
        }
    }

    // Promise 12: "TURNS (bits) by which it LOOKS as by none": by none it always does.
    private static void alikeOneTwoOrFour() {
        int[][] cellsAndBits = {{0, 15}, {ALL_UP, 15}, {ALL_UP - 1, 1}, {1, 1}, {32768, 1}, {32769, 5}, {0x9009, 15},
            {0x0660, 15}, {0xF99F, 15}, {0xF00F, 5}, {0x9999, 5}, {0x6666, 5}, {0x0FF0, 5}, {0x8421, 5}, {0x1248, 5},
            {0x000F, 1}, {0x1111, 1}, {0x2814, 15}, {0x4182, 15}, {0x2184, 5}, {0x2180, 1}};
        for (int[] c : cellsAndBits) {
            Due.same("alike of " + Integer.toHexString(c[0]), with(c[0]).alike(0), c[1]);
        }
        for (int cells = 0; cells <= ALL_UP; cells += 101) {
            PotatoPrints p = with(cells);
            int bits = 0;
            for (int t = 0; t < 4; t++) {
                bits += p.looks(0, t) == p.looks(0, 0) ? 1 << t : 0;
            }
            Due.same("alike of " + cells, p.alike(0), bits);
        }
    }

    // Promise 13: "how many CELLS of THE SHEET a PRINT would make DARKER"; "(Nothing is changed by these.)"
    private static void addsIsWhatPrintMakes() {
        for (int paint : new int[] {1, 3, 4, 8, 9, 12}) {
            for (int kind = 0; kind < 6; kind++) {
                for (int place = 0; place < 64; place += 3) {
                    PotatoPrints p = with(0x7E31);
                    p.dip(6);
                    p.print(2, 0, 4, 4, 1);
                    p.print(0, 0, 1, 0, 2);
                    p.dip(paint);
                    long ahead = p.digest();
                    int t = place % 4;
                    int adds = p.adds(kind, 0, place % 8, place / 8, t);
                    Due.same("nothing is changed", p.digest(), ahead);
                    Due.same("adds of kind " + kind + " at " + place, adds, p.print(kind, 0, place % 8, place / 8, t));
                }
            }
        }
        PotatoPrints p = with(ALL_UP);
        Due.same("no paint", p.adds(0, 0, 0, 0, 0), PotatoPrints.NO);
        Due.same("BAD comes first", p.adds(0, 2, 0, 0, 0), PotatoPrints.BAD);
        p.dip(1);
        Due.same("the least paint", p.adds(0, 0, 0, 0, 0), 16);
        Due.statuses("adds", p, 1, 1, 0);
    }

    private static void forces(int kind, int paint, int dark, int takes) {
        PotatoPrints p = new PotatoPrints();
        Due.same("kind " + kind + " by " + paint + ", dark", p.force(kind, paint, 0), dark);
        Due.same("kind " + kind + " by " + paint + ", takes", p.force(kind, paint, 1), takes);
    }

    // Promise 14: PLAIN "p, 9 at most"; HARD "2 more than PLAIN, 9 at most, where PLAIN is above 0"; PALE "half of PLAIN,
    // cut up"; SMEARED "1 less than SLID, 0 at least"; "how much PAINT it takes (no more than there is)".
    private static void forceAtTheLimits() {
        for (int kind = 0; kind < 6; kind++) {
            forces(kind, 0, 0, 0);
        }
        int[][] plain = {{1, 1, 1}, {8, 8, 1}, {9, 9, 1}, {10, 9, 1}, {12, 9, 1}};
        int[][] hard = {{1, 3, 1}, {2, 4, 2}, {6, 8, 2}, {7, 9, 2}, {8, 9, 2}, {9, 9, 2}, {12, 9, 2}};
        int[][] pale = {{1, 1, 1}, {2, 1, 1}, {3, 2, 1}, {4, 2, 1}, {8, 4, 1}, {9, 5, 1}, {10, 5, 1}, {12, 5, 1}};
        int[][] smeared = {{1, 2, 1}, {2, 3, 2}, {6, 7, 2}, {7, 8, 2}, {8, 8, 2}, {9, 8, 2}, {12, 8, 2}};
        int[][][] byKinds = {plain, hard, pale, hard, pale, smeared};
        for (int kind = 0; kind < 6; kind++) {
            for (int[] due : byKinds[kind]) {
                forces(kind, due[0], due[1], due[2]);
            }
        }
        PotatoPrints p = with(ALL_UP);
        p.dip(12);
        Due.same("by PAINT p, not by the one there is", p.force(0, 3, 0), 3);
    }

    // Promise 15: "how many PRINTS of a KIND, one behind the other from the first on, are DARK d (1 .. 9) at least".
    private static void fromOneAtTheLimits() {
        for (int kind = 0; kind < 6; kind++) {
            PotatoPrints p = new PotatoPrints();
            for (int paint = 0; paint <= 12; paint++) {
                int dark = p.force(kind, paint, 0);
                for (int d = 1; d <= 9; d++) {
                    boolean isFirst = p.fromOne(kind, paint, d) > 0;
                    Due.same("the first of kind " + kind + " by " + paint + " for " + d, isFirst ? 1 : 0, dark >= d ? 1 : 0);
                }
            }
        }
        int[] all = {12, 6, 12, 6, 12, 6};
        int[] odd = {11, 6, 11, 6, 11, 6};
        int[] darkest = {4, 3, 0, 3, 0, 0};
        PotatoPrints q = new PotatoPrints();
        for (int kind = 0; kind < 6; kind++) {
            Due.same("of no paint", q.fromOne(kind, 0, 1), 0);
            Due.same("of all paint, any", q.fromOne(kind, 12, 1), all[kind]);
            Due.same("of 11, any", q.fromOne(kind, 11, 1), odd[kind]);
            Due.same("of all paint, the darkest", q.fromOne(kind, 12, 9), darkest[kind]);
            Due.same("of the least paint", q.fromOne(kind, 1, 1), 1);
            Due.same("d 0", q.fromOne(kind, 12, 0), PotatoPrints.BAD);
            Due.same("d 10", q.fromOne(kind, 12, 10), PotatoPrints.BAD);
        }
        Due.statuses("fromOne", q, 12, 0, 0);
    }

    // Promise 16: "the fewest dips of p for n (0 .. 60) such; none".
    private static void dipsAtTheLimits() {
        PotatoPrints p = new PotatoPrints();
        for (int d = 1; d <= 9; d++) {
            Due.same("for none, of no paint", p.dips(0, 0, d, 0), 0);
            Due.same("for one, of no paint", p.dips(0, 0, d, 1), NONE);
            Due.same("for 60, of no paint", p.dips(0, 0, d, 60), NONE);
            Due.same("for 61", p.dips(0, 0, d, 61), PotatoPrints.BAD);
            Due.same("for -1", p.dips(0, 12, d, -1), PotatoPrints.BAD);
        }
        for (int d = 1; d <= 9; d++) {
            int each = 13 - d;
            for (int n = 0; n <= 60; n++) {
                int dips = 0;
                while (dips * each < n) {
                    dips++;
                }
                Due.same("plain, for " + n + " of " + d, new PotatoPrints().dips(0, 12, d, n), dips);
            }
        }
        Due.same("one of each dip", p.dips(0, 9, 9, 60), 60);
        Due.same("none of any", p.dips(0, 8, 9, 60), NONE);
        Due.same("smeared is never 9", p.dips(5, 12, 9, 1), NONE);
        Due.same("smeared, for none", p.dips(5, 12, 9, 0), 0);
        Due.statuses("none is not refused", p, 18, 0, 0);
    }

    // Promise 17: "PRINTS 4 wide with g between them: how many whole ones, how many CELLS are left".
    private static void edgeJustWholeAndOneShort() {
        for (int g = 0; g <= 9; g++) {
            PotatoPrints p = new PotatoPrints();
            for (int whole = 1; 4 * whole + g * (whole - 1) <= 99; whole++) {
                int length = 4 * whole + g * (whole - 1);
                Due.same(length + " by " + g, p.edge(length, g, 0), whole);
                Due.same(length + " by " + g + ", left", p.edge(length, g, 1), 0);
                if (length > 4) {
                    Due.same("one short of " + length, p.edge(length - 1, g, 0), whole - 1);
                    Due.same("one short of " + length + ", left", p.edge(length - 1, g, 1), g + 3);
                }
                if (length < 99 && (g > 0 || whole < 24)) {
                    Due.same("one more than " + length, p.edge(length + 1, g, 0), whole);
                    Due.same("one more than " + length + ", left", p.edge(length + 1, g, 1), 1);
                }
            }
        }
    }

    // "EDGE of L (4 .. 99) CELLS, a gap g (0 .. 9)".
    private static void edgeAtTheLimits() {
        PotatoPrints p = new PotatoPrints();
        int[][] lengthGapWholeLeft = {{4, 0, 1, 0}, {4, 9, 1, 0}, {99, 0, 24, 3}, {99, 9, 8, 4}, {5, 9, 1, 1}, {16, 9, 1, 12}};
        for (int[] e : lengthGapWholeLeft) {
            Due.same("whole ones of " + e[0], p.edge(e[0], e[1], 0), e[2]);
            Due.same("left of " + e[0], p.edge(e[0], e[1], 1), e[3]);
        }
        Due.same("L 3", p.edge(3, 0, 0), PotatoPrints.BAD);
        Due.same("L 100", p.edge(100, 0, 0), PotatoPrints.BAD);
        Due.same("g -1", p.edge(4, -1, 0), PotatoPrints.BAD);
        Due.same("g -4 would be no step", p.edge(4, -4, 0), PotatoPrints.BAD);
        Due.same("g 10", p.edge(4, 10, 0), PotatoPrints.BAD);
        Due.same("what -1", p.edge(4, 0, -1), PotatoPrints.BAD);
        Due.same("what 2", p.edge(4, 0, 2), PotatoPrints.BAD);
        Due.statuses("edge", p, 7, 0, 0);
    }

    // Promise 18: "BEST GAP (0 .. 9): by which fewest are left; of like ones the least".
    private static void gapOfLikeOnesTheLeast() {
        PotatoPrints p = new PotatoPrints();
        int[] from4 = {0, 0, 0, 0, 0, 1, 2, 3, 0, 5, 1, 7, 0, 9, 3, 1, 0, 0, 2, 2, 0, 3, 7};
        for (int i = 0; i < from4.length; i++) {
            Due.same("gap(" + (4 + i) + ")", p.gap(4 + i), from4[i]);
        }
        for (int length = 4; length <= 99; length++) {
            int best = p.gap(length);
            int left = p.edge(length, best, 1);
            for (int g = 0; g <= 9; g++) {
                PotatoPrints q = new PotatoPrints();
                Due.holds("gap(" + length + ") is before " + g,
                        left < q.edge(length, g, 1) || left == q.edge(length, g, 1) && best <= g);
            }
        }
        Due.same("gap(3)", p.gap(3), PotatoPrints.BAD);
        Due.same("gap(100)", p.gap(100), PotatoPrints.BAD);
        Due.statuses("gap", p, 2, 0, 0);
    }

    // Promise 19: "all of it on THE SHEET: x, y (0 .. 4 each), t": from 5 on it would come beyond.
    private static void hitWithinTheSheet() {
        int[][] cellThenWhere = {{0, 0, 0}, {4, 0, 4}, {0, 4, 40}, {4, 4, 44}, {5, 0, 102}, {7, 0, 104}, {7, 4, 144},
            {5, 4, 142}, {4, 5, 221}, {5, 5, 222}, {7, 7, 244}, {7, 5, 224}, {0, 5, 320}, {0, 7, 340}, {2, 7, 342},
            {3, 7, 240}};
        for (int[] c : cellThenWhere) {
            PotatoPrints p = darkAt(c[0], c[1], SINGLE);
            Due.same("one cell, dark by 1", p.hit(0, 0), 1);
            Due.same(c[0] + ", " + c[1] + " is hit first", p.hit(0, 1), c[2]);
        }
    }

    // "of like ones the first (100 t and 10 y and x, rising)".
    private static void hitOfLikeOnesTheFirst() {
        PotatoPrints p = with(ALL_UP);
        for (int place = 0; place < 4; place++) {
            p.dip(1);
            p.print(0, 0, place % 2 * 4, place / 2 * 4, 0);
        }
        Due.same("all is dark: sixteen", p.hit(0, 0), 16);
        Due.same("all is dark: the first place", p.hit(0, 1), 0);
        p.cut(1, 1);
        Due.same("of a single one", p.hit(1, 0), 1);
        Due.same("the first place, too", p.hit(1, 1), 0);
        PotatoPrints q = darkAt(7, 7, ALL_UP);
        Due.same("in the last corner", q.hit(0, 1), 44);
        q.dip(9);
        q.print(0, 0, 0, 0, 0);
        q.cut(0, SINGLE);
        q.dip(9);
        q.print(0, 0, 4, 0, 0);
        q.cut(0, ALL_UP);
        Due.same("more count before the first", q.hit(0, 0), 16);
        Due.same("the first of sixteen", q.hit(0, 1), 0);
    }

    // "none: it covers none".
    private static void hitNone() {
        for (int what = 0; what < 2; what++) {
            Due.same("a new sheet", with(ALL_UP).hit(0, what), NONE);
            Due.same("a potato of nothing", darkAt(3, 3, 0).hit(0, what), NONE);
            Due.same("the middle does not come to the corner", darkAt(0, 0, 0x0660).hit(0, what), NONE);
            Due.same("nor to the other one", darkAt(7, 7, 0x0660).hit(0, what), NONE);
            Due.same("nor around the edge", darkAt(0, 1, 0x0660).hit(0, what), NONE);
        }
        PotatoPrints p = darkAt(1, 1, 0x0660);
        Due.same("it comes to 1, 1", p.hit(0, 0), 1);
        Due.same("at the first place", p.hit(0, 1), 0);
        p = darkAt(6, 6, 0x0660);
        Due.same("it comes to 6, 6", p.hit(0, 0), 1);
        Due.same("at the last place", p.hit(0, 1), 44);
        Due.statuses("none is not refused", p, 0, 0, 0);
    }

    // Promise 20: "A WANTED CELL: how many there are. BAD; FULL: 8."; "as they come": the same may come again.
    private static void wantUpToEight() {
        PotatoPrints p = new PotatoPrints();
        for (int i = 0; i < 8; i++) {
            Due.same("wanted " + i, p.want(i % 2 * 7, i / 2 % 2 * 7), i + 1);
        }
        Due.same("a ninth", p.want(0, 0), PotatoPrints.FULL);
        Due.same("a ninth, new", p.want(3, 3), PotatoPrints.FULL);
        Due.same("BAD comes first", p.want(8, 8), PotatoPrints.BAD);
        Due.statuses("want", p, 1, 0, 2);
        Due.same("forget", p.forget(0), 8);
        Due.same("there is room again", p.want(7, 7), 1);
        PotatoPrints q = new PotatoPrints();
        PotatoPrints r = new PotatoPrints();
        q.want(1, 0);
        q.want(2, 0);
        r.want(2, 0);
        r.want(1, 0);
        Due.holds("the order is kept", q.digest() != r.digest());
    }

    private static void covers(String told, PotatoPrints p, int howMany, int first) {
        Due.same(told + ", how many", p.cover(0, 0), howMany);
        Due.same(told + ", the first", p.cover(0, 1), first);
    }

    // Promise 21: "how many PRINTS (0), the first (1; NONE: none is needed). NONE. BAD: -10."; "(0 .. 2; ..)".
    private static void coverNoneOneTwo() {
        covers("none is wanted", with(ALL_UP), 0, NONE);
        covers("none is wanted, nothing is up", with(0), 0, NONE);
        PotatoPrints p = with(SINGLE);
        p.want(7, 7);
        covers("one", p, 1, 77);
        p.want(7, 7);
        covers("the same again", p, 1, 77);
        p.want(7, 6);
        covers("two", p, 2, 67);
        p.want(0, 0);
        covers("three are too many", p, NONE, NONE);
        p.forget(0);
        covers("forgotten", p, 0, NONE);
        PotatoPrints q = with(0);
        q.want(4, 4);
        covers("nothing covers none", q, NONE, NONE);
        PotatoPrints r = with(ALL_UP);
        int[][] spread = {{0, 0}, {3, 3}, {0, 3}, {3, 0}, {4, 4}, {7, 7}, {4, 7}, {7, 4}};
        for (int[] c : spread) {
            r.want(c[0], c[1]);
        }
        covers("eight by two", r, 2, 0);
        Due.same("k 2", r.cover(2, 0), -10);
        Due.same("k -1", r.cover(-1, 1), -10);
        Due.same("what 2", r.cover(0, 2), -10);
        Due.same("what -1", r.cover(0, -1), -10);
        Due.statuses("they count as BAD", r, 4, 0, 0);
        Due.statuses("NONE is not refused", q, 0, 0, 0);
    }

    // "x, y 0 .. 7, any TURN": the rest of it may come beyond the sheet.
    private static void coverAtTheCorners() {
        // The mirror image prints, by turns, at 3, 0; 3, 3; 0, 3; 0, 0: on column 0 turned twice or three times.
        int[][] cellThenFirsts = {{0, 0, 0, 300}, {7, 0, 7, 4}, {0, 7, 70, 240}, {7, 7, 77, 74}};
        for (int[] c : cellThenFirsts) {
            PotatoPrints p = with(SINGLE);
            p.want(c[0], c[1]);
            covers("a single one, not turned", p, 1, c[2]);
            p.cut(0, 1);
            covers("its mirror image", p, 1, c[3]);
        }
        PotatoPrints p = with(ALL_UP);
        p.want(7, 7);
        covers("all of it, the first", p, 1, 44);
        p.want(0, 0);
        p.want(3, 3);
        covers("two of it", p, 2, 0);
        PotatoPrints q = with(1 << 15);
        q.want(0, 0);
        // Not turned it prints at column 0, row 3; turned once at column and row 0.
        covers("the last bit at the first cell", q, 1, 100);
        q.forget(0);
        q.want(7, 7);
        covers("the last bit at the last cell", q, 1, 47);
    }

    // What is beyond the last column does not come on the next row, nor what is beyond the last row on the first.
    private static void coverDoesNotWrapAround() {
        PotatoPrints p = with(BAR);
        p.want(7, 0);
        p.want(0, 1);
        covers("around the last column", p, 2, 6);
        p.forget(0);
        p.want(0, 7);
        p.want(0, 0);
        covers("around the last row", p, 2, 0);
        p.forget(0);
        p.want(7, 7);
        p.want(0, 0);
        covers("around the last cell", p, 2, 0);
    }

    // "the least PRINT (100 t and 10 y and x) that is in such": it need not be the one that covers the first wanted.
    private static void coverTheLeastOfTwo() {
        PotatoPrints p = with(BAR);
        p.want(5, 5);
        p.want(2, 2);
        p.want(3, 2);
        covers("the row above is less", p, 2, 22);
        PotatoPrints q = with(BAR);
        q.want(2, 5);
        q.want(2, 6);
        // One print of it upright: turned once it is in column 3 of rows 0 and 1, which is out of reach at column 2.
        covers("upright, turned three times", q, 1, 332);
        q.want(6, 1);
        covers("upright, and another", q, 2, 15);
    }

    // "all of it coming there": whatever paint there is, it neither slides nor has holes.
    private static void paintDoesNotMatter() {
        for (int paint = 0; paint <= 12; paint++) {
            PotatoPrints p = darkAt(0, 1, BAR);
            p.dip(paint);
            p.want(2, 1);
            p.want(3, 1);
            covers("by paint " + paint, p, 1, 12);
            Due.same("hit by paint " + paint, p.hit(0, 0), 1);
            Due.same("hit by paint " + paint + ", where", p.hit(0, 1), 10);
            Due.same("looks by paint " + paint, p.looks(0, 0), 3);
        }
    }

    // Promise 22: "in an HOUR each CELL that stays up goes, if one beside it (a column, a row) does not stay up, or there
    // is none there"; "h HOURS (0 .. 4; bits)".
    private static void shrinksHourByHour() {
        int[][] cellsThenHours = {{0, 0, 0}, {1, 0, 0}, {ALL_UP, 0x0660, 0}, {0x0660, 0, 0}, {ALL_UP - 1, 0x0660, 0},
            {0x7FFE, 0x0660, 0}, {0x6FF6, 0x0660, 0}, {ALL_UP - 2, 0x0640, 0}, {ALL_UP - 0x10, 0x0640, 0},
            {ALL_UP - 0x20, 0x0400, 0}, {0x0272, 0x0020, 0}, {0x4E40, 0x0400, 0}, {0xF99F, 0, 0}};
        for (int[] c : cellsThenHours) {
            PotatoPrints p = with(c[0]);
            String told = "of " + Integer.toHexString(c[0]);
            Due.same(told + ", 0 hours", p.shrinks(0, 0), c[0]);
            Due.same(told + ", 1 hour", p.shrinks(0, 1), c[1]);
            for (int h = 2; h <= 4; h++) {
                Due.same(told + ", " + h + " hours", p.shrinks(0, h), c[2]);
            }
            Due.same("the potato stays as it was", p.cut(0, 0), c[0]);
        }
        PotatoPrints p = with(ALL_UP);
        Due.same("h 5", p.shrinks(0, 5), PotatoPrints.BAD);
        Due.same("h -1", p.shrinks(0, -1), PotatoPrints.BAD);
        Due.statuses("shrinks", p, 2, 0, 0);
    }

    // Promise 23: "behind how many nothing is left (0: nothing was)".
    private static void goneBehindHours() {
        int[][] cellsThenHours = {{0, 0}, {1, 1}, {32768, 1}, {0x0660, 1}, {0xF99F, 1}, {0x0272, 2}, {0x4E40, 2}, {ALL_UP, 2},
            {ALL_UP - 0x20, 2}, {ALL_UP - 0x0660, 1}, {ALL_UP - 1, 2}};
        for (int[] c : cellsThenHours) {
            PotatoPrints p = new PotatoPrints();
            p.cut(1, c[0]);
            Due.same("gone of " + Integer.toHexString(c[0]), p.gone(1), c[1]);
            Due.same("nothing was", p.gone(0), 0);
        }
        for (int cells = 0; cells <= ALL_UP; cells += 77) {
            PotatoPrints p = with(cells);
            int hours = p.gone(0);
            Due.same("nothing is left of " + cells, p.shrinks(0, hours), 0);
            Due.holds("ahead of it something is", hours == 0 || p.shrinks(0, hours - 1) != 0);
        }
    }
}
