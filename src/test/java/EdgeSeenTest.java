import java.math.BigInteger;

/** Promises 24 to 30, sentence by sentence: the quoted words are the document's. */
public final class EdgeSeenTest {
    private static final int NONE = PotatoPrints.NONE, ALL_UP = 65535;
    // The cell that prints, not turned, at column and row 0; turned at 3, 0; 3, 3; 0, 3. With BAR, at column 1 too.
    private static final int SINGLE = 8, BAR = 12;

    public static void main(String[] args) {
        seenUpToEight();
        forgetEachByItself();
        whichOfAllPlaces();
        whichAtTheCorners();
        whichDoesNotWrapAround();
        whichNone();
        paintDoesNotMatter();
        lookOfLikeOnesTheFirst();
        lookNone();
        bittenAtTheLastPlace();
        bittenDoesNotWrapAround();
        bittenOfManyAndNone();
        bittenCanBe();
        slipsOfNoneAndFive();
        slipsNeverAndAlways();
        slipsAtTheEdges();
        slipsUntilThePaintIsGone();
        slipsWithoutPaint();
        slipsOfKinds();
        slipsLeaveTheRest();
        sheetsByPrints();
        sheetsOfNone();
        Due.end("EdgeSeenTest");
    }

    private static PotatoPrints with(int cells) {
        PotatoPrints p = new PotatoPrints();
        p.cut(0, cells);
        return p;
    }

    // Promise 24: "SEEN: how many there are. BAD; FULL: 8."; "as they come": the same may come again, and be other.
    private static void seenUpToEight() {
        PotatoPrints p = new PotatoPrints();
        for (int i = 0; i < 8; i++) {
            Due.same("seen " + i, p.seen(i % 2 * 7, i / 2 % 2 * 7, i / 4), i + 1);
        }
        Due.same("a ninth", p.seen(0, 0, 0), PotatoPrints.FULL);
        Due.same("a ninth, new", p.seen(3, 3, 1), PotatoPrints.FULL);
        Due.same("BAD comes first", p.seen(3, 3, 2), PotatoPrints.BAD);
        Due.same("BAD comes first", p.seen(8, 3, 1), PotatoPrints.BAD);
        Due.statuses("seen", p, 2, 0, 2);
        Due.same("wanted ones have room of their own", p.want(0, 0), 1);
        Due.same("forget", p.forget(1), 8);
        Due.same("there is room again", p.seen(7, 7, 1), 1);
        PotatoPrints q = new PotatoPrints();
        PotatoPrints r = new PotatoPrints();
        q.seen(1, 0, 1);
        q.seen(2, 0, 0);
        r.seen(2, 0, 0);
        r.seen(1, 0, 1);
        Due.holds("the order is kept", q.digest() != r.digest());
    }

    // Promise 25: "No WANTED (0), SEEN (1): how many there were. BAD."
    private static void forgetEachByItself() {
        for (int many = 0; many <= 8; many++) {
            PotatoPrints p = with(ALL_UP);
            for (int i = 0; i < many; i++) {
                p.want(i, i);
            }
            for (int i = 0; i < 8 - many; i++) {
                p.seen(i, i, 0);
            }
            Due.same("forget(2)", p.forget(2), PotatoPrints.BAD);
            Due.same("forget(-1)", p.forget(-1), PotatoPrints.BAD);
            Due.counts("behind refused ones", p, 0, 0, many, 8 - many);
            Due.same("wanted", p.forget(0), many);
            Due.counts("seen stay", p, 0, 0, 0, 8 - many);
            Due.same("no wanted", p.forget(0), 0);
            Due.same("seen", p.forget(1), 8 - many);
            Due.counts("none stay", p, 0, 0, 0, 0);
            Due.same("no seen", p.forget(1), 0);
            Due.same("none is wanted", p.cover(0, 0), 0);
            Due.same("all fit", p.which(0, 0), 256);
            Due.statuses("forget", p, 2, 0, 0);
        }
    }

    private static void fits(String told, PotatoPrints p, int howMany, int first) {
        Due.same(told + ", how many", p.which(0, 0), howMany);
        Due.same(told + ", the first", p.which(0, 1), first);
    }

    // Promise 26: "PLACES (x, y 0 .. 7) and TURNS by which, all of it coming there, all SEEN are so".
    private static void whichOfAllPlaces() {
        fits("nothing seen, all is up", with(ALL_UP), 256, 0);
        fits("nothing seen, nothing is up", with(0), 256, 0);
        PotatoPrints p = with(0);
        for (int i = 0; i < 8; i++) {
            p.seen(i, i, 0);
        }
        fits("eight blank, nothing is up", p, 256, 0);
        PotatoPrints q = with(SINGLE);
        q.seen(0, 0, 0);
        fits("all but the first one", q, 255, 1);
        q.dip(9);
        q.print(0, 0, 0, 0, 0);
        fits("whatever is on the sheet", q, 255, 1);
        Due.same("k 2", q.which(2, 0), -10);
        Due.same("k -1", q.which(-1, 1), -10);
        Due.same("what 2", q.which(0, 2), -10);
        Due.same("what -1", q.which(0, -1), -10);
        Due.statuses("they count as BAD", q, 4, 0, 0);
    }

    private static void whichAtTheCorners() {
        int[][] cellThenSingleThenAll = {{0, 0, 1, 0, 4, 0}, {7, 0, 2, 7, 16, 4}, {0, 7, 2, 70, 16, 40}, {7, 7, 4, 77, 64, 44},
            {3, 3, 4, 33, 64, 0}, {2, 2, 1, 22, 36, 0}};
        for (int[] c : cellThenSingleThenAll) {
            PotatoPrints p = with(SINGLE);
            p.seen(c[0], c[1], 1);
            fits("a single one at " + c[0] + ", " + c[1], p, c[2], c[3]);
            p.cut(0, ALL_UP);
            fits("all of it at " + c[0] + ", " + c[1], p, c[4], c[5]);
        }
    }

    private static void whichDoesNotWrapAround() {
        PotatoPrints p = with(BAR);
        p.seen(0, 1, 1);
        fits("not from the row above", p, 1, 10);
        p.seen(7, 0, 1);
        fits("nor both", p, 0, NONE);
        PotatoPrints q = with(BAR);
        q.seen(0, 0, 1);
        fits("not from the last row", q, 1, 0);
        q.seen(0, 7, 1);
        fits("nor both", q, 0, NONE);
    }

    // "all of it coming there": whatever paint there is, it neither slides nor has holes.
    private static void paintDoesNotMatter() {
        for (int paint = 0; paint <= 12; paint++) {
            PotatoPrints p = with(BAR);
            p.dip(paint);
            p.seen(2, 0, 1);
            fits("by paint " + paint, p, 2, 1);
            Due.same("look by paint " + paint, p.look(0), 1);
            p.seen(3, 0, 0);
            Due.same("bitten by paint " + paint, p.bitten(0, 2, 0, 0, 0), 4);
            Due.same("it can be, by paint " + paint, p.bitten(0, 2, 0, 0, 1), 1);
            Due.same("not one column less", p.bitten(0, 0, 0, 0, 1), 0);
        }
    }

    // "how many (0), the first (1; NONE)": where none fits, how many is 0.
    private static void whichNone() {
        PotatoPrints p = with(0);
        p.seen(3, 3, 1);
        fits("nothing is up, and one is inked", p, 0, NONE);
        PotatoPrints q = with(SINGLE);
        q.seen(3, 3, 1);
        q.seen(3, 3, 0);
        fits("inked and not", q, 0, NONE);
        PotatoPrints r = with(SINGLE);
        r.seen(3, 3, 1);
        r.seen(3, 4, 1);
        fits("two of one", r, 0, NONE);
        Due.statuses("none is not refused", r, 0, 0, 0);
    }

    // Promise 27: "by which, inked or not, the greater part of these is least; of like ones the first".
    private static void lookOfLikeOnesTheFirst() {
        PotatoPrints p = with(SINGLE);
        // From column and row 3 on four prints come on a cell, elsewhere fewer.
        Due.same("nothing seen", p.look(0), 27);
        p.seen(3, 3, 0);
        Due.same("the next one", p.look(0), 28);
        p.forget(1);
        p.seen(7, 7, 1);
        Due.same("four that come on one cell alone: like everywhere", p.look(0), 0);
        Due.same("a potato of nothing has none", p.look(1), NONE);
        p.forget(1);
        Due.same("a potato of nothing: like everywhere", p.look(1), 0);
        PotatoPrints q = with(BAR);
        q.seen(0, 0, 1);
        Due.same("one print: like everywhere", q.look(0), 0);
        // Two prints come on 1, 0, at columns 0 and 1: the first cell tells them.
        q.forget(1);
        q.seen(1, 0, 1);
        Due.same("one of two comes on the first cell", q.look(0), 0);
        q.seen(0, 0, 0);
        Due.same("one is left: like everywhere", q.look(0), 0);
        Due.same("the one", q.which(0, 1), 1);
        q.forget(1);
        q.seen(2, 0, 1);
        Due.same("one of two comes on the second cell", q.look(0), 1);
        q.seen(1, 0, 1);
        Due.same("one is left: like everywhere", q.look(0), 0);
        // With these three seen four prints are left; two of them come on 7, 7 too.
        q.forget(1);
        q.seen(6, 7, 1);
        q.seen(5, 7, 0);
        q.seen(6, 6, 0);
        Due.same("the last cell", q.look(0), 63);
    }

    // "none: no PRINT".
    private static void lookNone() {
        PotatoPrints p = with(ALL_UP);
        p.seen(0, 0, 1);
        p.seen(4, 0, 1);
        Due.same("too far apart", p.look(0), NONE);
        Due.same("look(2)", p.look(2), PotatoPrints.BAD);
        Due.same("look(-1)", p.look(-1), PotatoPrints.BAD);
        Due.statuses("none is not refused", p, 2, 0, 0);
    }

    // Promise 28: "CELLS of the POTATO (bits, as it lies, not as it PRINTS)": at the last place one of them is on the sheet.
    private static void bittenAtTheLastPlace() {
        int[] byTurns = {8, 32768, 4096, 1};
        for (int t = 0; t < 4; t++) {
            PotatoPrints p = with(ALL_UP);
            Due.same("nothing seen", p.bitten(0, 7, 7, t, 0), 0);
            p.seen(7, 7, 0);
            Due.same("at 7, 7, turned " + t, p.bitten(0, 7, 7, t, 0), byTurns[t]);
            Due.same("it can be", p.bitten(0, 7, 7, t, 1), 1);
            Due.same("the other potato", p.bitten(1, 7, 7, t, 0), 0);
            p.forget(1);
            p.seen(0, 0, 0);
            Due.same("at 0, 0, turned " + t, p.bitten(0, 0, 0, t, 0), byTurns[t]);
            Due.same("nothing at 7, 7", p.bitten(0, 7, 7, t, 0), 0);
            p.cut(0, ALL_UP - byTurns[t]);
            Due.same("what is not up is not bitten", p.bitten(0, 0, 0, t, 0), 0);
        }
    }

    private static void bittenDoesNotWrapAround() {
        PotatoPrints p = with(ALL_UP);
        p.seen(0, 1, 0);
        Due.same("beyond the last column, blank", p.bitten(0, 6, 0, 0, 0), 0);
        p.seen(0, 0, 0);
        Due.same("beyond the last row, blank", p.bitten(0, 0, 6, 0, 0), 0);
        p.forget(1);
        p.seen(0, 1, 1);
        Due.same("beyond the last column, inked", p.bitten(0, 6, 0, 0, 1), 0);
        p.forget(1);
        p.seen(0, 0, 1);
        Due.same("beyond the last row, inked", p.bitten(0, 0, 6, 0, 1), 0);
    }

    private static void bittenOfManyAndNone() {
        PotatoPrints p = with(ALL_UP);
        for (int x = 0; x < 4; x++) {
            p.seen(x, 0, 0);
            p.seen(x, 3, 0);
        }
        Due.same("eight of sixteen", p.bitten(0, 0, 0, 0, 0), 0xF00F);
        Due.same("turned: the outer columns", p.bitten(0, 0, 0, 1, 0), 0x9999);
        Due.same("one column further", p.bitten(0, 1, 0, 0, 0), 0xE00E);
        Due.same("three rows further", p.bitten(0, 0, 3, 0, 0), 0x000F);
        Due.same("four rows further", p.bitten(0, 0, 4, 0, 0), 0);
        p.cut(0, 0x0FF0);
        Due.same("where it would not print", p.bitten(0, 0, 0, 0, 0), 0);
        p.cut(0, 0);
        Due.same("nothing is up", p.bitten(0, 0, 0, 0, 0), 0);
        PotatoPrints q = with(SINGLE);
        q.seen(2, 2, 0);
        q.seen(2, 2, 0);
        Due.same("the same again", q.bitten(0, 2, 2, 0, 0), 8);
        q.seen(2, 2, 1);
        Due.same("and inked, too", q.bitten(0, 2, 2, 0, 0), 8);
    }

    // "whether it can be so (no CELL SEEN inked where it would not print)".
    private static void bittenCanBe() {
        PotatoPrints p = with(0);
        Due.same("nothing seen, nothing up", p.bitten(0, 0, 0, 0, 1), 1);
        p.seen(7, 7, 0);
        Due.same("a blank one, nothing up", p.bitten(0, 0, 0, 0, 1), 1);
        p.seen(0, 0, 1);
        Due.same("an inked one, nothing up", p.bitten(0, 0, 0, 0, 1), 0);
        PotatoPrints q = with(ALL_UP);
        for (int i = 0; i < 4; i++) {
            q.seen(4 + i, 4 + i, 1);
        }
        Due.same("four inked, all there", q.bitten(0, 4, 4, 0, 1), 1);
        Due.same("one column too far", q.bitten(0, 5, 4, 0, 1), 0);
        Due.same("one row too far", q.bitten(0, 4, 5, 0, 1), 0);
        Due.same("one column too near", q.bitten(0, 3, 4, 0, 1), 0);
        for (int i = 0; i < 4; i++) {
            q.seen(i, i, 0);
        }
        Due.same("blank ones elsewhere", q.bitten(0, 4, 4, 0, 1), 1);
        q.cut(0, 0x1248);
        Due.same("mirrored", q.bitten(0, 4, 4, 0, 1), 1);
        Due.same("and turned", q.bitten(0, 4, 4, 1, 1), 0);
        q.cut(0, 0x0248);
        Due.same("all but the last", q.bitten(0, 4, 4, 0, 1), 0);
    }

    private static void chance(String told, PotatoPrints p, int[] with, long above, long below) {
        Due.same(told, p.slips(with[0], with[1], with[2], with[3], with[4], with[5], with[6]), 1);
        Due.fraction(told, p, above, below);
    }

    /** Kind, n and c, of potato 0 at 2, 2; how far the cell is from there, in columns. */
    private static void nearby(PotatoPrints p, int kind, int n, int c, int further, long above, long below) {
        String told = "kind " + kind + ", " + n + " by " + c + " of 10, " + further + " further";
        chance(told, p, new int[] {kind, 0, 2, 2, n, c, 18 + further}, above, below);
    }

    private static PotatoPrints single(int paint) {
        PotatoPrints p = with(SINGLE);
        p.dip(paint);
        return p;
    }

    // Promise 29: "n (0 .. 5) PRINTS"; THE FRACTION: "lowest terms, below above 0".
    private static void slipsOfNoneAndFive() {
        for (int c = 0; c <= 10; c++) {
            PotatoPrints p = single(12);
            nearby(p, 0, 1, 5, 0, 1, 2);
            nearby(p, 0, 0, c, 0, 0, 1);
            nearby(p, 0, 0, c, 1, 0, 1);
        }
        PotatoPrints p = single(12);
        nearby(p, 0, 5, 1, 0, 99999, 100000);
        nearby(p, 0, 5, 1, 1, 40951, 100000);
        nearby(p, 0, 5, 9, 0, 40951, 100000);
        nearby(p, 0, 5, 5, 0, 31, 32);
        nearby(p, 0, 5, 5, 1, 31, 32);
        nearby(p, 0, 5, 2, 0, 3124, 3125);
        nearby(p, 0, 5, 4, 0, 3093, 3125);
        nearby(p, 0, 5, 5, 2, 0, 1);
        nearby(p, 0, 5, 5, -1, 0, 1);
        nearby(p, 0, 5, 5, 8, 0, 1);
    }

    // "each one column further by c of 10 (0 .. 10)".
    private static void slipsNeverAndAlways() {
        for (int n = 1; n <= 5; n++) {
            PotatoPrints p = single(12);
            nearby(p, 0, n, 0, 0, 1, 1);
            nearby(p, 0, n, 0, 1, 0, 1);
            nearby(p, 0, n, 10, 0, 0, 1);
            nearby(p, 0, n, 10, 1, 1, 1);
        }
        int[][] byTen = {{1, 9, 10}, {2, 4, 5}, {3, 7, 10}, {4, 3, 5}, {5, 1, 2}, {6, 2, 5}, {7, 3, 10}, {8, 1, 5}, {9, 1, 10}};
        PotatoPrints p = single(12);
        for (int[] b : byTen) {
            nearby(p, 0, 1, b[0], 0, b[1], b[2]);
            nearby(p, 0, 1, b[0], 1, b[2] - b[1], b[2]);
        }
        PotatoPrints q = with(BAR);
        q.dip(12);
        nearby(q, 0, 1, 3, 0, 7, 10);
        nearby(q, 0, 1, 3, 1, 1, 1);
        nearby(q, 0, 1, 3, 2, 3, 10);
    }

    // What slips beyond the last column is lost: it does not come on the next row.
    private static void slipsAtTheEdges() {
        PotatoPrints p = single(8);
        chance("the first cell", p, new int[] {0, 0, 0, 0, 1, 3, 0}, 7, 10);
        chance("the last cell", p, new int[] {0, 0, 7, 7, 1, 3, 63}, 7, 10);
        chance("the last cell, slipped on", p, new int[] {0, 0, 6, 7, 1, 3, 63}, 3, 10);
        chance("not around, onto the next row", p, new int[] {0, 0, 7, 0, 5, 5, 8}, 0, 1);
        chance("not around, onto the same row", p, new int[] {0, 0, 7, 0, 5, 5, 0}, 0, 1);
        chance("not around, onto the first cell", p, new int[] {0, 0, 7, 7, 5, 5, 0}, 0, 1);
        chance("smeared at the last column", p, new int[] {5, 0, 7, 0, 1, 3, 7}, 7, 10);
        chance("smeared, not around", p, new int[] {5, 0, 7, 0, 1, 3, 8}, 0, 1);
        p.dip(12);
        chance("slid off the last column", p, new int[] {3, 0, 7, 0, 1, 3, 7}, 0, 1);
        chance("slid and slipped, not around", p, new int[] {3, 0, 7, 0, 1, 3, 9}, 0, 1);
        chance("slid onto the last column", p, new int[] {3, 0, 6, 0, 1, 3, 7}, 7, 10);
        p.cut(0, ALL_UP);
        p.dip(8);
        chance("rows below the last are lost", p, new int[] {0, 0, 4, 7, 5, 5, 4}, 0, 1);
        chance("the last cell, of all of it", p, new int[] {0, 0, 4, 7, 5, 5, 63}, 1, 1);
    }

    // "by PAINT as it is, and comes to be": without paint a print inks nothing.
    private static void slipsUntilThePaintIsGone() {
        long[] halves = {1, 2, 4, 8, 16, 32};
        int[] takes = {1, 2, 1, 2, 1, 2};
        for (int kind = 0; kind <= 5; kind++) {
            for (int paint = 0; paint <= 8; paint++) {
                PotatoPrints p = single(paint);
                int inking = Math.min(5, (paint + takes[kind] - 1) / takes[kind]);
                nearby(p, kind, 5, 5, 0, halves[inking] - 1, halves[inking]);
                if (kind == 5) {
                    nearby(p, kind, 5, 5, 2, halves[inking] - 1, halves[inking]);
                }
                Due.same("paint stays", p.count(1), paint);
            }
        }
    }

    // "inked (DARK above 0)": without paint no cell is, by the smear neither.
    private static void slipsWithoutPaint() {
        for (int kind = 0; kind <= 5; kind++) {
            for (int c = 0; c <= 10; c += 5) {
                PotatoPrints p = with(ALL_UP);
                for (int cell = 0; cell < 64; cell++) {
                    chance("no paint, kind " + kind + ", cell " + cell, p, new int[] {kind, 0, 2, 2, 5, c, cell}, 0, 1);
                }
            }
        }
    }

    private static void slipsOfKinds() {
        PotatoPrints p = single(9);
        nearby(p, 3, 1, 3, 0, 0, 1);
        nearby(p, 3, 1, 3, 1, 7, 10);
        nearby(p, 3, 1, 3, 2, 3, 10);
        nearby(p, 3, 2, 3, 0, 7, 10);
        nearby(p, 3, 2, 3, 1, 79, 100);
        nearby(p, 3, 2, 3, 2, 3, 10);
        nearby(p, 5, 1, 3, 1, 7, 10);
        nearby(p, 5, 1, 3, 2, 1, 1);
        nearby(p, 5, 1, 3, 3, 3, 10);
        p.dip(8);
        nearby(p, 3, 1, 3, 0, 7, 10);
        nearby(p, 5, 1, 3, 0, 7, 10);
        nearby(p, 5, 1, 3, 1, 1, 1);
        nearby(p, 5, 1, 3, 2, 3, 10);
        nearby(p, 5, 1, 3, 3, 0, 1);
        p.dip(1);
        nearby(p, 5, 1, 0, 1, 1, 1);
        p.dip(4);
        nearby(p, 4, 1, 3, 0, 7, 10);
        nearby(p, 4, 1, 3, 1, 3, 10);
        nearby(p, 4, 2, 3, 0, 91, 100);
        nearby(p, 4, 2, 3, 1, 3, 10);
        p.dip(3);
        nearby(p, 4, 5, 3, 0, 973, 1000);
        nearby(p, 4, 5, 3, 1, 0, 1);
    }

    // "if THE SHEET was empty"; "of a POTATO not TURNED"; nothing but THE FRACTION is changed.
    private static void slipsLeaveTheRest() {
        PotatoPrints p = single(9);
        p.print(0, 0, 2, 2, 0);
        p.image(0);
        p.want(1, 1);
        p.seen(1, 1, 1);
        p.type('a');
        nearby(p, 0, 1, 10, 0, 0, 1);
        nearby(p, 0, 0, 0, 0, 0, 1);
        Due.counts("the rest stays", p, 1, 8, 1, 1, 2, 1);
        Due.same("the sheet stays", p.dark(2, 2), 9);
        p.cut(0, 1);
        nearby(p, 0, 1, 0, 3, 1, 1);
        nearby(p, 0, 1, 0, 0, 0, 1);
        chance("a potato of nothing", p, new int[] {0, 1, 2, 2, 5, 5, 18}, 0, 1);
    }

    private static PotatoPrints painted(int paint) {
        PotatoPrints p = with(0x4E13);
        p.cut(1, 0x8FF1);
        p.dip(9);
        p.print(0, 1, 3, 2, 1);
        p.dip(paint);
        return p;
    }

    private static int darknessInAll(PotatoPrints p) {
        int sum = 0;
        for (int cell = 0; cell < 64; cell++) {
            sum += p.dark(cell % 8, cell / 8);
        }
        return sum;
    }

    /** Draws the prints with numbers of any size and does each one by the other calls. */
    private static int byPrints(PotatoPrints p, int seed, int n) {
        BigInteger x = BigInteger.valueOf(seed);
        int[] by = {6, 2, 64, 4};
        for (int i = 0; i < n; i++) {
            int[] drawn = new int[4];
            for (int j = 0; j < 4; j++) {
                x = x.multiply(BigInteger.valueOf(1103515245)).add(BigInteger.valueOf(12345));
                x = x.mod(BigInteger.valueOf(2147483648L));
                drawn[j] = x.divide(BigInteger.valueOf(65536)).mod(BigInteger.valueOf(by[j])).intValue();
            }
            if (p.count(1) == 0) {
                p.dip(12);
            }
            p.print(drawn[0], drawn[1], drawn[2] % 8, drawn[2] / 8, drawn[3]);
        }
        return darknessInAll(p);
    }

    // Promise 30: "SEED (0 .. 999999), n (0 .. 30) PRINTS from now"; "by 2147483648 what is left over"; "a dip of 12 ahead
    // of each one for which there is no PAINT".
    private static void sheetsByPrints() {
        int[] seeds = {0, 1, 2, 3, 65535, 65536, 123456, 500000, 777777, 999998, 999999};
        for (int seed : seeds) {
            for (int n : new int[] {0, 1, 2, 3, 5, 8, 13, 29, 30}) {
                for (int paint : new int[] {0, 1, 2, 12}) {
                    String told = "sheets(" + seed + ", " + n + ") with paint " + paint;
                    Due.same(told, painted(paint).sheets(seed, n), byPrints(painted(paint), seed, n));
                }
            }
        }
    }

    private static void sheetsOfNone() {
        PotatoPrints p = new PotatoPrints();
        Due.same("a new one, none", p.sheets(0, 0), 0);
        Due.same("a new one, 30 of nothing", p.sheets(999999, 30), 0);
        Due.same("seed -1", p.sheets(-1, 0), PotatoPrints.BAD);
        Due.same("seed 1000000", p.sheets(1000000, 0), PotatoPrints.BAD);
        Due.same("n -1", p.sheets(0, -1), PotatoPrints.BAD);
        Due.same("n 31", p.sheets(0, 31), PotatoPrints.BAD);
        Due.statuses("sheets", p, 4, 0, 0);
        p.cut(0, ALL_UP);
        for (int place = 0; place < 4; place++) {
            p.dip(9);
            p.print(0, 0, place % 2 * 4, place / 2 * 4, 0);
        }
        Due.same("all as dark as can be, none", p.sheets(0, 0), 576);
        Due.same("all as dark as can be, 30", p.sheets(5, 30), 576);
    }
}
