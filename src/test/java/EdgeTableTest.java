/** Promises 1 to 10 and the terms that they stand on, sentence by sentence: the quoted words are the document's. */
public final class EdgeTableTest {
    private static final int ALL_UP = 65535;

    public static void main(String[] args) {
        aNewObject();
        tableOfAnEmptyAndAFullSheet();
        tableBeginsAnew();
        cutNothingAndAll();
        dipNothingAndMost();
        printsAtEveryPlace();
        slidAtEveryPlace();
        holedAtEveryPlace();
        smearedAtEveryPlace();
        printsOfTheLastPaint();
        darkerByOneOnly();
        smearUnderAndOver();
        printOfNothing();
        undoOneToEight();
        undoSkipsWhatWasRefused();
        typeUpTo150();
        clearEmptyAndFull();
        darkAtTheCorners();
        Due.end("EdgeTableTest");
    }

    /** Potato 0 with all of it up, and paint. */
    private static PotatoPrints full(int paint) {
        PotatoPrints p = new PotatoPrints();
        p.cut(0, ALL_UP);
        p.dip(paint);
        return p;
    }

    /** Potato 0 with the one cell up that prints, not turned, at its column and row 0; and paint. */
    private static PotatoPrints single(int paint) {
        PotatoPrints p = new PotatoPrints();
        p.cut(0, 8);
        p.dip(paint);
        return p;
    }

    private static boolean isWithin(int v, int first) {
        return v >= first && v < first + 4;
    }

    // Promise 1: "As told; nothing is cut." The sheet: "0 at first"; PAINT "0 at first"; THE FRACTION "0 by 1 at first".
    private static void aNewObject() {
        PotatoPrints p = new PotatoPrints();
        Due.statuses("new", p, 0, 0, 0);
        Due.counts("new", p, 0, 0, 0, 0, 0, 0);
        Due.sheet("new", p);
        Due.fraction("new", p, 0, 1);
        Due.same("new, undo", p.undo(), PotatoPrints.NO);
        Due.same("new, from(0)", p.from(0), PotatoPrints.NO);
        Due.same("new, from(1)", p.from(1), PotatoPrints.NO);
        Due.same("new, clear", p.clear(), 0);
        Due.same("new, read", p.read(), -10);
        Due.same("new, forget(0)", p.forget(0), 0);
        Due.same("new, forget(1)", p.forget(1), 0);
        Due.same("new, cut(0)", p.cut(0, 1), 0);
        Due.same("new, cut(1)", p.cut(1, 1), 0);
        PotatoPrints q = new PotatoPrints();
        Due.same("one object knows nothing of another", q.cut(0, 0), 0);
        Due.statuses("nor of what it was refused", q, 0, 0, 0);
    }

    // Promise 2: "how many CELLS were DARK".
    private static void tableOfAnEmptyAndAFullSheet() {
        PotatoPrints p = new PotatoPrints();
        Due.same("table(0) of a new one", p.table(0), 0);
        Due.counts("table(0)", p, 0, 0);
        Due.same("table(12) again", p.table(12), 0);
        Due.counts("table(12)", p, 0, 12);
        p.cut(0, ALL_UP);
        for (int place = 0; place < 4; place++) {
            p.dip(1);
            p.print(0, 0, place % 2 * 4, place / 2 * 4, 0);
        }
        Due.same("all 64 are dark", p.count(0), 64);
        Due.same("table(0) of all 64", p.table(0), 64);
        Due.sheet("behind it", p);
        Due.same("of none again", p.table(1), 0);
        Due.statuses("none was refused", p, 0, 0, 0);
    }

    // Promise 2: "PAINT, all else as at first (but for IMAGES, THE TEXT, THE FRACTION, STATUS)".
    private static void tableBeginsAnew() {
        PotatoPrints p = full(9);
        p.cut(1, 6);
        p.dip(9);
        p.print(0, 0, 0, 0, 0);
        p.slips(0, 0, 0, 0, 1, 1, 0);
        p.image(0);
        p.print(0, 0, 4, 4, 0);
        p.image(1);
        p.table(99);
        p.from(9);
        for (int i = 0; i < 9; i++) {
            p.want(i % 8, 0);
            p.seen(i % 8, 0, 1);
        }
        Due.write(p, "table 1;");
        Due.counts("ahead", p, 32, 7, 8, 8, 3, 8);
        Due.same("table", p.table(3), 32);
        Due.counts("behind", p, 0, 3, 0, 0, 0, 8);
        Due.same("potato 0", p.looks(0, 0), 0);
        Due.same("potato 1", p.looks(1, 0), 0);
        Due.fraction("it stays", p, 9, 10);
        Due.statuses("they stay", p, 2, 0, 2);
        Due.same("the first wanted again", p.want(1, 1), 1);
        Due.same("the first seen again", p.seen(1, 1, 0), 1);
        Due.same("the text stays", p.read(), 1);
        p.from(0);
        Due.counts("image 0 stays", p, 16, 8, 0, 0, 2, 8);
        p.from(1);
        Due.counts("image 1 stays", p, 32, 7, 0, 0, 3, 8);
    }

    // Promise 3: "A POTATO is cut (bits 0 .. 65535): what it was."
    private static void cutNothingAndAll() {
        for (int k = 0; k < 2; k++) {
            PotatoPrints p = new PotatoPrints();
            p.cut(1 - k, 1234);
            Due.same("all stays up", p.cut(k, ALL_UP), 0);
            Due.same("it looks so", p.looks(k, 0), ALL_UP);
            Due.same("nothing stays up", p.cut(k, 0), ALL_UP);
            Due.same("it looks so", p.looks(k, 0), 0);
            Due.same("nothing again", p.cut(k, 0), 0);
            Due.same("the other one stays", p.cut(1 - k, 0), 1234);
            p.dip(4);
            p.want(2, 2);
            p.seen(3, 3, 1);
            p.cut(k, 32768);
            Due.counts("cut takes what may be undone, and no more", p, 0, 4, 1, 1, 0, 0);
            p.dip(5);
            Due.same("a refused one", p.cut(k, 65536), PotatoPrints.BAD);
            Due.same("takes nothing", p.count(4), 1);
            Due.same("and cuts nothing", p.cut(k, 1), 32768);
        }
    }

    // Promise 4: "PAINT: what it was."; PAINT "(0 .. 12; 0 at first)".
    private static void dipNothingAndMost() {
        PotatoPrints p = new PotatoPrints();
        Due.same("dip(0) of a new one", p.dip(0), 0);
        Due.same("dip(12)", p.dip(12), 0);
        Due.same("dip(12) again", p.dip(12), 12);
        Due.same("it is no more", p.count(1), 12);
        Due.same("dip(13)", p.dip(13), PotatoPrints.BAD);
        Due.same("dip(-1)", p.dip(-1), PotatoPrints.BAD);
        Due.counts("each dip may be undone, no refused one", p, 0, 12, 0, 0, 3);
        Due.same("dip(0)", p.dip(0), 12);
        Due.same("no paint", p.count(1), 0);
    }

    private static void eachCell(String told, PotatoPrints p, int[] due) {
        for (int cell = 0; cell < 64; cell++) {
            Due.same(told + ", cell " + cell, p.dark(cell % 8, cell / 8), due[cell]);
        }
    }

    private static void printsOneAt(String told, int kind, int paint, int place, int[] due) {
        for (int t = 0; t < 4; t++) {
            PotatoPrints p = full(paint);
            int darker = 0;
            for (int d : due) {
                darker += d > 0 ? 1 : 0;
            }
            String call = told + " at " + place % 8 + ", " + place / 8 + ", turned " + t;
            Due.same(call + ", adds", p.adds(kind, 0, place % 8, place / 8, t), darker);
            Due.same(call, p.print(kind, 0, place % 8, place / 8, t), darker);
            eachCell(call, p, due);
        }
    }

    // PLACE "(0 .. 7 each)"; "what comes beyond THE SHEET is lost": it comes neither on the next row nor on the first.
    private static void printsAtEveryPlace() {
        int[][] kindPaintDark = {{0, 12, 9}, {0, 9, 9}, {0, 8, 8}, {0, 1, 1}, {1, 12, 9}, {1, 7, 9}, {1, 6, 8}, {1, 1, 3},
            {2, 12, 5}, {2, 8, 4}, {2, 1, 1}, {3, 8, 9}, {3, 1, 3}, {4, 4, 2}, {4, 12, 5}};
        for (int[] k : kindPaintDark) {
            for (int place = 0; place < 64; place++) {
                int[] due = new int[64];
                for (int cell = 0; cell < 64; cell++) {
                    boolean isOn = isWithin(cell % 8, place % 8) && isWithin(cell / 8, place / 8);
                    due[cell] = isOn ? k[2] : 0;
                }
                printsOneAt("kind " + k[0] + " by " + k[1], k[0], k[1], place, due);
            }
        }
    }

    // SLID: "one column further, if p is above 8".
    private static void slidAtEveryPlace() {
        for (int paint = 9; paint <= 12; paint++) {
            for (int place = 0; place < 64; place++) {
                int[] due = new int[64];
                for (int cell = 0; cell < 64; cell++) {
                    due[cell] = isWithin(cell % 8, place % 8 + 1) && isWithin(cell / 8, place / 8) ? 9 : 0;
                }
                printsOneAt("slid by " + paint, 3, paint, place, due);
            }
        }
    }

    // HOLED: "if p is below 4, nothing on CELLS of THE SHEET whose column and row together are odd".
    private static void holedAtEveryPlace() {
        int[] dark = {0, 1, 1, 2};
        for (int paint = 1; paint <= 3; paint++) {
            for (int place = 0; place < 64; place++) {
                int[] due = new int[64];
                for (int cell = 0; cell < 64; cell++) {
                    boolean isOn = isWithin(cell % 8, place % 8) && isWithin(cell / 8, place / 8);
                    due[cell] = isOn && (cell % 8 + cell / 8) % 2 == 0 ? dark[paint] : 0;
                }
                printsOneAt("holed by " + paint, 4, paint, place, due);
            }
        }
    }

    // SMEARED: "as SLID, and that once more one column further (half of how DARK it is, cut)".
    private static void smearedAtEveryPlace() {
        int[][] paintDarkHalfFurther = {{1, 2, 1, 0}, {2, 3, 1, 0}, {3, 4, 2, 0}, {6, 7, 3, 0}, {7, 8, 4, 0}, {8, 8, 4, 0},
            {9, 8, 4, 1}, {12, 8, 4, 1}};
        for (int[] s : paintDarkHalfFurther) {
            for (int place = 0; place < 64; place++) {
                int[] due = new int[64];
                int first = place % 8 + s[3];
                for (int cell = 0; cell < 64; cell++) {
                    boolean isRow = isWithin(cell / 8, place / 8);
                    int dark = isWithin(cell % 8, first) ? s[1] : isWithin(cell % 8, first + 1) ? s[2] : 0;
                    due[cell] = isRow ? dark : 0;
                }
                printsOneAt("smeared by " + s[0], 5, s[0], place, due);
            }
        }
    }

    // "how much PAINT it takes (no more than there is)"; promise 5: "NO: there is no PAINT".
    private static void printsOfTheLastPaint() {
        int[] takes = {1, 2, 1, 2, 1, 2};
        for (int kind = 0; kind < 6; kind++) {
            for (int paint = 1; paint <= 12; paint++) {
                PotatoPrints p = full(paint);
                int left = paint;
                for (int print = 0; print < 12 && left > 0; print++) {
                    Due.holds("there is paint", p.print(kind, 0, 2, 2, 0) >= 0);
                    left = Math.max(0, left - takes[kind]);
                    Due.same("kind " + kind + ", left of " + paint, p.count(1), left);
                }
                Due.same("no paint", p.print(kind, 0, 2, 2, 0), PotatoPrints.NO);
                Due.same("nor below none", p.count(1), 0);
                Due.statuses("kind " + kind, p, 0, 1, 0);
            }
        }
    }

    // "A PRINT makes a CELL as DARK as it is there, if that is more than it was."; DARK "0 .. 9".
    private static void darkerByOneOnly() {
        for (int was = 1; was <= 9; was++) {
            for (int next = 1; next <= 12; next++) {
                PotatoPrints p = single(was);
                p.print(0, 0, 5, 5, 0);
                p.dip(next);
                int dark = Math.min(next, 9);
                Due.same(next + " over " + was, p.print(0, 0, 5, 5, 0), dark > was ? 1 : 0);
                Due.same(next + " over " + was + ", dark", p.dark(5, 5), Math.max(dark, was));
            }
        }
        PotatoPrints p = full(12);
        Due.same("hard by 12", p.print(1, 0, 4, 4, 0), 16);
        p.dip(12);
        Due.same("9 is the darkest", p.print(1, 0, 4, 4, 0), 0);
        Due.sheet("no cell is above 9", p, "", "", "", "", "....9999", "....9999", "....9999", "....9999");
    }

    // The smear is counted once where it makes a cell darker, and makes nothing paler.
    private static void smearUnderAndOver() {
        PotatoPrints p = single(4);
        p.print(0, 0, 3, 0, 0);
        p.dip(7);
        Due.same("8, and a half of 4 over 4", p.print(5, 0, 2, 0, 0), 1);
        Due.sheet("4 stays", p, "..84");
        p.dip(3);
        Due.same("4 over 4, and a half of 2 over none", p.print(5, 0, 3, 0, 0), 1);
        Due.sheet("the half alone", p, "..842");
        p.dip(7);
        Due.same("8 over 4, and a half of 4 over 2", p.print(5, 0, 3, 0, 0), 2);
        Due.sheet("both", p, "..884");
    }

    // A potato of which nothing stays up prints nothing, takes paint, and may be undone.
    private static void printOfNothing() {
        for (int kind = 0; kind < 6; kind++) {
            PotatoPrints p = new PotatoPrints();
            p.dip(12);
            Due.same("adds of nothing", p.adds(kind, 1, 0, 0, 0), 0);
            Due.same("print of nothing", p.print(kind, 1, 0, 0, 0), 0);
            Due.counts("print of nothing", p, 0, kind % 2 == 1 ? 10 : 11, 0, 0, 2);
            Due.same("it is undone", p.undo(), 12);
            Due.statuses("it is not refused", p, 0, 0, 0);
        }
    }

    // Promise 6: "UNDO: PAINT then. NO: none may be."; UNDO "(8 at most; ..)": with a ninth the oldest can not be undone.
    private static void undoOneToEight() {
        for (int steps = 0; steps <= 12; steps++) {
            PotatoPrints p = single(12);
            p.cut(1, 0);
            for (int i = 0; i < steps; i++) {
                p.print(0, 0, i % 8, i / 8, 0);
            }
            int may = Math.min(steps, 8);
            Due.same(steps + " prints, may be undone", p.count(4), may);
            for (int i = 1; i <= may; i++) {
                Due.same(steps + " prints, undo " + i, p.undo(), 12 - steps + i);
                Due.counts(steps + " prints, undo " + i, p, steps - i, 12 - steps + i, 0, 0, may - i);
            }
            Due.same(steps + " prints, no more", p.undo(), PotatoPrints.NO);
            Due.counts(steps + " prints, no more", p, steps - may, 12 - steps + may, 0, 0, 0);
            Due.statuses("undo", p, 0, 1, 0);
            p.dip(3);
            Due.same("one more may be", p.count(4), 1);
            Due.same("and is", p.undo(), 12 - steps + may);
        }
    }

    // What was refused is no print, no dip; what is wanted, seen, typed, kept is not undone.
    private static void undoSkipsWhatWasRefused() {
        PotatoPrints p = single(1);
        p.print(0, 0, 0, 0, 0);
        p.print(0, 0, 1, 0, 0);
        p.dip(13);
        p.print(0, 0, 8, 0, 0);
        p.adds(0, 0, 0, 0, 0);
        p.want(1, 1);
        p.seen(2, 2, 1);
        p.type('a');
        p.slips(0, 0, 0, 0, 0, 0, 0);
        p.image(0);
        p.sheets(5, 5);
        Due.counts("two may be undone", p, 1, 0, 1, 1, 2, 1);
        Due.same("the print", p.undo(), 1);
        Due.counts("the rest stays", p, 0, 1, 1, 1, 1, 1);
        Due.same("the dip", p.undo(), 0);
        Due.counts("the rest stays", p, 0, 0, 1, 1, 0, 1);
        Due.same("no more", p.undo(), PotatoPrints.NO);
        p.dip(2);
        p.undo();
        Due.same("an undo is not undone", p.undo(), PotatoPrints.NO);
    }

    // Promise 7: "A byte (0 .. 127) comes behind THE TEXT: how many it has. BAD; FULL."; "150 bytes at most".
    private static void typeUpTo150() {
        PotatoPrints p = new PotatoPrints();
        for (int i = 1; i <= 150; i++) {
            Due.same("byte " + i, p.type(i % 128), i);
        }
        for (int i = 0; i < 3; i++) {
            Due.same("one more", p.type('a'), PotatoPrints.FULL);
            Due.same("it has 150", p.count(5), 150);
        }
        Due.same("BAD comes first", p.type(-1), PotatoPrints.BAD);
        Due.same("BAD comes first", p.type(128), PotatoPrints.BAD);
        Due.statuses("type", p, 2, 0, 3);
        Due.same("clear", p.clear(), 150);
        Due.same("there is room again", p.type(127), 1);
        Due.same("and for all bytes", p.type(0), 2);
    }

    // Promise 8: "THE TEXT is empty: how many it had."
    private static void clearEmptyAndFull() {
        PotatoPrints p = new PotatoPrints();
        for (int had : new int[] {0, 1, 149, 150}) {
            for (int i = 0; i < had; i++) {
                p.type(';');
            }
            Due.same("clear of " + had, p.clear(), had);
            Due.same("it is empty", p.count(5), 0);
        }
        Due.write(p, "table 7;");
        p.clear();
        Due.same("nothing of it is left", p.read(), -10);
        p.type('t');
        Due.same("nor behind a first byte", p.read(), -10);
        Due.statuses("clear is never refused", p, 0, 0, 0);
    }

    // Promise 10: "How DARK a CELL is. BAD."
    private static void darkAtTheCorners() {
        for (int[] c : new int[][] {{0, 0}, {7, 0}, {0, 7}, {7, 7}}) {
            PotatoPrints p = single(12);
            p.print(0, 0, c[0], c[1], 0);
            Due.same("the corner", p.dark(c[0], c[1]), 9);
            Due.same("the one across", p.dark(7 - c[0], 7 - c[1]), 0);
            Due.same("the one beside", p.dark(7 - c[0], c[1]), 0);
            Due.same("one alone is dark", p.count(0), 1);
            Due.same("column -1", p.dark(-1, c[1]), PotatoPrints.BAD);
            Due.same("column 8", p.dark(8, c[1]), PotatoPrints.BAD);
            Due.same("row -1", p.dark(c[0], -1), PotatoPrints.BAD);
            Due.same("row 8", p.dark(c[0], 8), PotatoPrints.BAD);
            Due.same("a column that would be another row's", p.dark(15, 0), PotatoPrints.BAD);
            Due.statuses("dark", p, 5, 0, 0);
        }
    }
}
