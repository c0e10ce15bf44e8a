/** One test or more for each promise of the document, with answers worked out by hand. */
public final class PromiseTest {
    private static final int LEAST = Integer.MIN_VALUE, MOST = Integer.MAX_VALUE;
    // Columns 0 and 1 of row 0 and column 0 of row 1 stay up; it prints as CORNER when turned three times.
    private static final int CORNER = 1 + 2 + 16;

    public static void main(String[] args) {
        constants();
        newObject();
        table();
        cut();
        dip();
        print();
        printsOfKinds();
        undo();
        type();
        clear();
        read();
        readFaults();
        readTakesThePlaceOfAll();
        dark();
        looks();
        alike();
        adds();
        force();
        fromOne();
        dips();
        edge();
        gap();
        hit();
        want();
        cover();
        shrinks();
        gone();
        seen();
        forget();
        which();
        look();
        bitten();
        slips();
        sheets();
        part();
        image();
        status();
        count();
        digest();
        Due.end("PromiseTest");
    }

    private static PotatoPrints withCorner(int paint) {
        PotatoPrints p = new PotatoPrints();
        p.cut(0, CORNER);
        p.dip(paint);
        return p;
    }

    private static void constants() {
        Due.same("NONE", PotatoPrints.NONE, -1);
        Due.same("BAD", PotatoPrints.BAD, -2);
        Due.same("NO", PotatoPrints.NO, -3);
        Due.same("FULL", PotatoPrints.FULL, -4);
    }

    private static void newObject() {
        PotatoPrints p = new PotatoPrints();
        Due.counts("new", p, 0, 0, 0, 0, 0, 0);
        Due.statuses("new", p, 0, 0, 0);
        Due.same("new, looks(0, 0)", p.looks(0, 0), 0);
        Due.same("new, looks(1, 0)", p.looks(1, 0), 0);
        Due.same("new, part(0)", p.part(0), 0);
        Due.same("new, part(1)", p.part(1), 1);
        Due.same("new, from(0)", p.from(0), PotatoPrints.NO);
        Due.same("new, from(1)", p.from(1), PotatoPrints.NO);
        Due.same("new, undo()", p.undo(), PotatoPrints.NO);
        Due.sheet("new", p);
    }

    private static void table() {
        PotatoPrints p = withCorner(5);
        p.cut(1, 7);
        p.dip(5);
        p.print(0, 0, 0, 0, 3);
        p.want(1, 1);
        p.seen(1, 1, 1);
        p.type('x');
        p.image(0);
        p.slips(0, 0, 0, 0, 1, 5, 2);
        p.dip(99);
        Due.counts("ahead of table", p, 3, 4, 1, 1, 2, 1);
        Due.same("table(12)", p.table(12), 3);
        Due.counts("behind table", p, 0, 12, 0, 0, 0, 1);
        Due.same("table cuts nothing, 0", p.looks(0, 0), 0);
        Due.same("table cuts nothing, 1", p.looks(1, 0), 0);
        Due.sheet("behind table", p);
        Due.same("the fraction stays", p.part(1), 2);
        Due.same("undo behind table", p.undo(), PotatoPrints.NO);
        Due.statuses("status stays", p, 1, 1, 0);
        Due.same("an image stays", p.from(0), 1);
        Due.counts("from it", p, 3, 4, 1, 1, 2, 1);
        for (int bad : new int[] {-1, 13, LEAST, MOST}) {
            Due.same("table(" + bad + ")", p.table(bad), PotatoPrints.BAD);
        }
        Due.counts("behind a bad table", p, 3, 4, 1, 1, 2, 1);
        Due.same("table(0)", p.table(0), 3);
        Due.same("table(12)", p.table(12), 0);
    }

    private static void cut() {
        PotatoPrints p = new PotatoPrints();
        Due.same("cut(0, 65535)", p.cut(0, 65535), 0);
        Due.same("cut(1, 1)", p.cut(1, 1), 0);
        Due.same("cut(0, 0)", p.cut(0, 0), 65535);
        Due.same("cut(1, 8)", p.cut(1, 8), 1);
        p.dip(3);
        Due.same("count(4) ahead", p.count(4), 1);
        int[][] bad = {{-1, 0}, {2, 0}, {0, -1}, {1, 65536}, {LEAST, 0}, {MOST, 0}, {0, LEAST}, {0, MOST}};
        for (int[] b : bad) {
            Due.same("cut(" + b[0] + ", " + b[1] + ")", p.cut(b[0], b[1]), PotatoPrints.BAD);
        }
        Due.same("count(4) behind bad ones", p.count(4), 1);
        Due.same("cut as it was", p.cut(1, 8), 8);
        Due.same("count(4) behind a cut", p.count(4), 0);
        Due.same("paint stays", p.count(1), 3);
        Due.same("undo behind a cut", p.undo(), PotatoPrints.NO);
    }

    private static void dip() {
        PotatoPrints p = new PotatoPrints();
        Due.same("dip(12)", p.dip(12), 0);
        Due.same("dip(3)", p.dip(3), 12);
        Due.same("dip(13)", p.dip(13), PotatoPrints.BAD);
        Due.same("dip(-1)", p.dip(-1), PotatoPrints.BAD);
        Due.same("dip(MOST)", p.dip(MOST), PotatoPrints.BAD);
        Due.same("dip(LEAST)", p.dip(LEAST), PotatoPrints.BAD);
        Due.same("dip(0)", p.dip(0), 3);
        Due.same("dip(0) again", p.dip(0), 0);
        Due.counts("dips may be undone", p, 0, 0, 0, 0, 4, 0);
    }

    private static void print() {
        PotatoPrints p = withCorner(2);
        Due.same("print in the middle", p.print(0, 0, 2, 3, 0), 3);
        Due.sheet("mirrored", p, "", "", "", "....22..", ".....2..");
        Due.same("paint is taken", p.count(1), 1);
        Due.same("paler makes nothing darker", p.print(0, 0, 2, 3, 0), 0);
        Due.same("paint is taken all the same", p.count(1), 0);
        Due.same("no paint", p.print(0, 0, 2, 3, 0), PotatoPrints.NO);
        Due.counts("three may be undone", p, 3, 0, 0, 0, 3, 0);
        int[][] bad = {{6, 0, 0, 0, 0}, {-1, 0, 0, 0, 0}, {0, 2, 0, 0, 0}, {0, -1, 0, 0, 0}, {0, 0, 8, 0, 0},
            {0, 0, -1, 0, 0}, {0, 0, 0, 8, 0}, {0, 0, 0, -1, 0}, {0, 0, 0, 0, 4}, {0, 0, 0, 0, -1},
            {MOST, MOST, MOST, MOST, MOST}, {LEAST, LEAST, LEAST, LEAST, LEAST}};
        for (int[] b : bad) {
            Due.same("a bad print", p.print(b[0], b[1], b[2], b[3], b[4]), PotatoPrints.BAD);
            Due.same("bad adds", p.adds(b[0], b[1], b[2], b[3], b[4]), PotatoPrints.BAD);
        }
        Due.statuses("bad ahead of no", p, 24, 1, 0);
        p.dip(9);
        Due.same("darker", p.print(0, 0, 2, 3, 0), 3);
        Due.sheet("darker", p, "", "", "", "....99..", ".....9..");
        p.dip(9);
        Due.same("as dark is not darker", p.print(0, 0, 2, 3, 0), 0);
        PotatoPrints q = withCorner(12);
        Due.same("beyond is lost: 3 of 3 at 7, 7", q.print(0, 0, 7, 7, 0), 0);
        Due.same("beyond is lost: 1 of 3 stays", q.print(0, 0, 7, 7, 3), 1);
        Due.same("beyond is lost: 2 of 3 stay", q.print(0, 0, 0, 7, 3), 2);
        Due.sheet("beyond", q, "", "", "", "", "", "", "", "99.....9");
        Due.same("paint of three", q.count(1), 9);
    }

    private static void printsOfKinds() {
        kind("hard", 1, 5, 0, 3, 3, "77", "7");
        kind("hard, the last paint", 1, 1, 0, 3, 0, "33", "3");
        kind("pale, cut up", 2, 7, 0, 3, 6, "44", "4");
        kind("slid at 8 stays", 3, 8, 0, 3, 6, "99", "9");
        kind("slid at 9 slides", 3, 9, 0, 3, 7, ".99", ".9");
        kind("slid at the edge", 3, 12, 7, 0, 10);
        kind("holed at 4 is full", 4, 4, 0, 3, 3, "22", "2");
        kind("holed at 3, even", 4, 3, 0, 1, 2, "2.");
        kind("holed at 3, odd", 4, 3, 1, 2, 2, "..2", ".2");
        kind("smeared", 5, 5, 0, 5, 3, "663", "63");
        kind("smeared and slid", 5, 9, 0, 5, 7, ".884", ".84");
        kind("smeared, the last paint", 5, 1, 0, 5, 0, "221", "21");
        kind("smeared at the edge", 5, 8, 7, 2, 6, ".......8", ".......8");
        kind("smeared and slid at the edge", 5, 9, 7, 0, 7);
        kind("smeared and slid next to the edge", 5, 9, 6, 2, 7, ".......8", ".......8");
    }

    private static void kind(String name, int kind, int paint, int x, int darker, int left, String... rows) {
        PotatoPrints p = withCorner(paint);
        Due.same(name + ", adds", p.adds(kind, 0, x, 0, 3), darker);
        Due.sheet(name + " behind adds", p);
        Due.same(name, p.print(kind, 0, x, 0, 3), darker);
        Due.sheet(name, p, rows);
        Due.same(name + ", paint left", p.count(1), left);
    }

    private static void undo() {
        PotatoPrints p = withCorner(9);
        p.print(0, 0, 0, 0, 3);
        p.print(1, 0, 4, 4, 3);
        Due.same("undo a print", p.undo(), 8);
        Due.sheet("behind it", p, "99", "9");
        Due.same("undo another", p.undo(), 9);
        Due.sheet("behind both", p);
        Due.same("undo the dip", p.undo(), 0);
        Due.same("no more", p.undo(), PotatoPrints.NO);
        Due.statuses("undo", p, 0, 1, 0);
        p.dip(12);
        for (int x = 0; x < 8; x++) {
            p.print(0, 0, x, 0, 3);
            Due.same("at most 8", p.count(4), Math.min(x + 2, 8));
        }
        for (int i = 0; i < 8; i++) {
            Due.same("undo " + i, p.undo(), 5 + i);
        }
        Due.sheet("eight prints undone", p);
        Due.same("the dip is forgotten", p.undo(), PotatoPrints.NO);
        Due.same("paint stays", p.count(1), 12);
        undoOfTheLastEight();
    }

    private static void undoOfTheLastEight() {
        PotatoPrints p = new PotatoPrints();
        p.cut(0, 8);
        p.dip(12);
        for (int x = 0; x < 8; x++) {
            p.print(0, 0, x, 0, 0);
        }
        p.print(0, 0, 0, 1, 0);
        Due.sheet("nine prints", p, "99998765", "4");
        String row = "99998765";
        for (int left = 8; left > 0; left--) {
            p.undo();
            for (int x = 0; x < 8; x++) {
                Due.same(left + " left, column " + x, p.dark(x, 0), x < left ? row.charAt(x) - '0' : 0);
            }
            Due.same(left + " left", p.count(0), left);
        }
        Due.same("the first print stays", p.undo(), PotatoPrints.NO);
        Due.same("with its paint", p.count(1), 11);
    }

    private static void type() {
        PotatoPrints p = new PotatoPrints();
        Due.same("type(0)", p.type(0), 1);
        Due.same("type(127)", p.type(127), 2);
        for (int bad : new int[] {-1, 128, LEAST, MOST}) {
            Due.same("type(" + bad + ")", p.type(bad), PotatoPrints.BAD);
        }
        for (int i = 3; i <= 150; i++) {
            Due.same("type, " + i, p.type(' '), i);
        }
        Due.same("the 151st", p.type(' '), PotatoPrints.FULL);
        Due.same("bad ahead of full", p.type(128), PotatoPrints.BAD);
        Due.statuses("type", p, 5, 0, 1);
        Due.same("count(5)", p.count(5), 150);
    }

    private static void clear() {
        PotatoPrints p = new PotatoPrints();
        Due.same("clear()", p.clear(), 0);
        p.type('a');
        p.type('b');
        Due.same("clear() of 2", p.clear(), 2);
        Due.same("clear() again", p.clear(), 0);
        Due.same("type behind clear", p.type('c'), 1);
    }

    private static void reads(String text, int want) {
        PotatoPrints p = new PotatoPrints();
        Due.write(p, text);
        Due.same("read of '" + text + "'", p.read(), want);
        Due.statuses("read is not refused", p, 0, 0, 0);
        Due.same("the text stays", p.count(5), text.length());
    }

    private static void read() {
        reads("table 5;", 1);
        reads("table 0;", 1);
        reads("table 12;", 1);
        reads("table 05;", 1);
        reads("table 00;", 1);
        reads("  table   5  ;  ", 1);
        reads("table5;potato1 15 0 0 8;", 2);
        reads("table 5;potato 0 1 2 3 4;potato 0 4 3 2 1;", 3);
        reads("table 0;print 0 0 0 0 0;print 5 1 7 7 3;", 3);
        reads("table 01;potato 00 01 02 03 15;print 00 01 07 07 03;", 3);
        reads("table 1;" + "print 0 0 0 0 0;".repeat(8) + "      ", 9);
        PotatoPrints p = new PotatoPrints();
        Due.write(p, "table 2;potato 0 3 1 0 0;print 0 0 0 0 3;potato 1 0 0 0 8;print 1 1 4 4 0;print 0 0 1 1 3;");
        Due.same("read()", p.read(), 6);
        Due.same("potato 0", p.cut(0, 0), CORNER);
        Due.same("potato 1", p.cut(1, 0), 1 << 15);
        Due.same("paint", p.count(1), 0);
        Due.sheet("prints in order, none without paint", p, "22", "2", "", "", "", "", "", "....3");
        Due.same("no answer of read is refused", p.status(1), 0);
        Due.write(p, "table 7;potato 0 1 2 4 8;potato 1 0 0 12 0;print 2 1 5 3 1;");
        Due.same("read() again", p.read(), 4);
        Due.same("rows are cells", p.cut(0, 0), 33825);
        // Columns 2 and 3 of row 2 print in columns 0 and 1 of it, and turned once in column 1 of rows 0 and 1.
        Due.sheet("a print of another kind", p, "", "", "", "......4", "......4");
    }

    private static void readFaults() {
        reads("", -10);
        reads("   ", -13);
        reads("table", -15);
        reads("table ", -16);
        reads("table 5", -17);
        reads("table 5  ", -19);
        reads("table 5;potato 0 1 2 3 4", -34);
        reads("table 5;print 0 0 0", -29);
        reads("tabl", -10);
        reads("tables 5;", -10);
        reads("fable 5;", -10);
        reads("table 5;cotato 0 1 2 3 4;", -18);
        reads("table 5;frint 0 0 0 0 0;", -18);
        reads("table 5;prin 0 0 0 0 0;", -18);
        reads("Table 5;", -10);
        reads("tablE 5;", -10);
        reads("potato 0 1 1 1 1;table 5;", -10);
        reads(" print 0 0 0 0 0;", -11);
        reads("5;", -10);
        reads(";", -10);
        reads("table 5;table 5;", -18);
        reads("table 5; table 5;", -19);
        reads("table 5;;", -18);
        reads("table 5;7", -18);
        reads("table 5;spud 0 1 1 1 1;", -18);
        reads("table 5;print 0 0 0 0 0;tables", -34);
        reads("table ;", -16);
        reads("table table 5;", -16);
        reads("table 13;", -16);
        reads("table 99;", -16);
        reads("table 123;", -16);
        reads("table 000;", -16);
        reads("table 99999999999999999999;", -16);
        reads("table 4294967296;", -16);
        reads("table -5;", -16);
        reads("table 5.", -17);
        reads("table 5 5;", -18);
        reads("table 5 print 0 0 0 0 0;", -18);
        reads("table 5a;", -17);
        reads("table 5;\tprint 0 0 0 0 0;", -18);
        reads("table\0005;", -15);
        reads("table 5;potato 2 1 1 1 1;", -25);
        reads("table 5;potato 0 16 1 1 1;", -27);
        reads("table 5;potato 0 1 16 1 1;", -29);
        reads("table 5;potato 0 1 1 16 1;", -31);
        reads("table 5;potato 0 1 1 1 16;", -33);
        reads("table 5;potato 0 1 1 1;", -32);
        reads("table 5;potato 0 1 1 1 1 1;", -35);
        reads("table 5;print 6 0 0 0 0;", -24);
        reads("table 5;print 0 2 0 0 0;", -26);
        reads("table 5;print 0 0 8 0 0;", -28);
        reads("table 5;print 0 0 0 8 0;", -30);
        reads("table 5;print 0 0 0 0 4;", -32);
        reads("table 5;print 0 0 0 0;", -31);
        reads("table 5;print 0 0 0 0 0 0;", -34);
        reads("table 5;" + " ".repeat(141) + "x", -159);
        reads("table 5;" + " ".repeat(137) + "print", -160);
    }

    private static PotatoPrints busy() {
        PotatoPrints p = withCorner(9);
        p.print(0, 0, 0, 0, 3);
        p.want(1, 2);
        p.seen(3, 4, 1);
        p.slips(0, 0, 0, 0, 1, 5, 2);
        p.image(1);
        p.dark(-1, 0);
        return p;
    }

    private static void readTakesThePlaceOfAll() {
        PotatoPrints p = busy();
        Due.write(p, "table 7;print 0 0 0 0 4;");
        long ahead = p.digest();
        Due.same("a fault", p.read(), -10 - 22);
        Due.same("all stays", p.digest(), ahead);
        Due.statuses("a fault is none of the refused", p, 1, 0, 0);
        Due.write(p, "table 7;");
        Due.same("read", p.read(), 1);
        Due.counts("all is new", p, 0, 7, 0, 0, 0, 8);
        Due.same("potatoes too", p.looks(0, 0), 0);
        Due.same("the fraction stays", p.part(1), 2);
        Due.statuses("status stays", p, 1, 0, 0);
        Due.same("an image stays", p.from(1), 1);
        Due.counts("from it", p, 3, 8, 1, 1, 2, 8);
        Due.write(p, "table 9;potato 0 1 0 0 0;print 0 0 0 0 0;");
        p.read();
        Due.same("what is read is not undone", p.undo(), PotatoPrints.NO);
    }

    private static void dark() {
        PotatoPrints p = withCorner(6);
        p.print(0, 0, 3, 5, 3);
        Due.same("dark(3, 5)", p.dark(3, 5), 6);
        Due.same("dark(4, 5)", p.dark(4, 5), 6);
        Due.same("dark(3, 6)", p.dark(3, 6), 6);
        Due.same("dark(5, 3)", p.dark(5, 3), 0);
        int[][] bad = {{-1, 0}, {8, 0}, {0, -1}, {0, 8}, {LEAST, MOST}, {8, -1}};
        for (int[] b : bad) {
            Due.same("a bad dark", p.dark(b[0], b[1]), PotatoPrints.BAD);
        }
        Due.statuses("dark", p, 6, 0, 0);
    }

    private static void looks() {
        PotatoPrints p = new PotatoPrints();
        p.cut(1, CORNER);
        Due.same("looks(1, 0)", p.looks(1, 0), 140);
        Due.same("looks(1, 1)", p.looks(1, 1), 51200);
        Due.same("looks(1, 2)", p.looks(1, 2), 12544);
        Due.same("looks(1, 3)", p.looks(1, 3), CORNER);
        Due.same("looks(0, 3)", p.looks(0, 3), 0);
        int[][] bad = {{-1, 0}, {2, 0}, {0, -1}, {0, 4}, {MOST, LEAST}};
        for (int[] b : bad) {
            Due.same("bad looks", p.looks(b[0], b[1]), PotatoPrints.BAD);
        }
    }

    private static void alike() {
        int[][] cells = {{0, 15}, {65535, 15}, {1632, 15}, {CORNER, 1}, {33825, 5}, {1 << 15, 1}, {0x9009, 15},
            {0x8001, 5}, {0xF00F, 5}, {0x0FF0, 5}, {15, 1}};
        for (int[] c : cells) {
            PotatoPrints p = new PotatoPrints();
            p.cut(1, c[0]);
            Due.same("alike of " + c[0], p.alike(1), c[1]);
            Due.same("alike of nothing", p.alike(0), 15);
        }
        PotatoPrints p = new PotatoPrints();
        Due.same("alike(2)", p.alike(2), PotatoPrints.BAD);
        Due.same("alike(-1)", p.alike(-1), PotatoPrints.BAD);
    }

    private static void adds() {
        PotatoPrints p = withCorner(5);
        p.print(0, 0, 0, 0, 3);
        long ahead = p.digest();
        Due.same("adds, paler", p.adds(0, 0, 0, 0, 3), 0);
        Due.same("adds, harder", p.adds(1, 0, 0, 0, 3), 3);
        Due.same("adds beside it", p.adds(0, 0, 1, 0, 3), 2);
        Due.same("adds of nothing", p.adds(0, 1, 0, 0, 0), 0);
        Due.same("adds changes nothing", p.digest(), ahead);
        p.dip(0);
        Due.same("adds without paint", p.adds(0, 0, 5, 5, 0), PotatoPrints.NO);
        Due.same("adds, bad ahead of no", p.adds(0, 0, 8, 5, 0), PotatoPrints.BAD);
        Due.statuses("adds", p, 1, 1, 0);
    }

    private static void force() {
        int[][] darkness = {
            {0, 1, 2, 3, 4, 5, 6, 7, 8, 9, 9, 9, 9},
            {0, 3, 4, 5, 6, 7, 8, 9, 9, 9, 9, 9, 9},
            {0, 1, 1, 2, 2, 3, 3, 4, 4, 5, 5, 5, 5},
            {0, 3, 4, 5, 6, 7, 8, 9, 9, 9, 9, 9, 9},
            {0, 1, 1, 2, 2, 3, 3, 4, 4, 5, 5, 5, 5},
            {0, 2, 3, 4, 5, 6, 7, 8, 8, 8, 8, 8, 8}};
        int[] takes = {1, 2, 1, 2, 1, 2};
        PotatoPrints p = new PotatoPrints();
        for (int kind = 0; kind < 6; kind++) {
            for (int paint = 0; paint <= 12; paint++) {
                String call = "force(" + kind + ", " + paint;
                Due.same(call + ", 0)", p.force(kind, paint, 0), darkness[kind][paint]);
                Due.same(call + ", 1)", p.force(kind, paint, 1), Math.min(paint, takes[kind]));
            }
        }
        int[][] bad = {{6, 0, 0}, {-1, 0, 0}, {0, 13, 0}, {0, -1, 0}, {0, 0, 2}, {0, 0, -1}, {MOST, LEAST, MOST}};
        for (int[] b : bad) {
            Due.same("a bad force", p.force(b[0], b[1], b[2]), PotatoPrints.BAD);
        }
        Due.statuses("force", p, 7, 0, 0);
    }

    private static void fromOne() {
        PotatoPrints p = new PotatoPrints();
        int[][] some = {{0, 12, 1, 12}, {0, 12, 9, 4}, {0, 9, 9, 1}, {0, 8, 9, 0}, {0, 7, 3, 5}, {0, 0, 1, 0},
            {1, 11, 1, 6}, {1, 11, 4, 5}, {1, 12, 9, 3}, {1, 1, 3, 1}, {1, 1, 4, 0}, {2, 12, 5, 4}, {2, 12, 6, 0},
            {2, 12, 1, 12}, {2, 5, 2, 3}, {3, 12, 9, 3}, {4, 3, 2, 1}, {4, 3, 1, 3}, {5, 12, 8, 3}, {5, 12, 9, 0},
            {5, 11, 2, 6}, {5, 11, 3, 5}};
        for (int[] s : some) {
            Due.same("fromOne(" + s[0] + ", " + s[1] + ", " + s[2] + ")", p.fromOne(s[0], s[1], s[2]), s[3]);
        }
        int[][] bad = {{6, 0, 1}, {-1, 0, 1}, {0, 13, 1}, {0, -1, 1}, {0, 0, 0}, {0, 0, 10}, {MOST, MOST, MOST}};
        for (int[] b : bad) {
            Due.same("a bad fromOne", p.fromOne(b[0], b[1], b[2]), PotatoPrints.BAD);
            Due.same("bad dips", p.dips(b[0], b[1], b[2], 0), PotatoPrints.BAD);
        }
        Due.statuses("fromOne", p, 14, 0, 0);
    }

    private static void dips() {
        PotatoPrints p = new PotatoPrints();
        Due.same("dips of 5 for 60", p.dips(0, 12, 8, 60), 12);
        Due.same("dips of 5 for 11", p.dips(0, 12, 8, 11), 3);
        Due.same("dips of 5 for 10", p.dips(0, 12, 8, 10), 2);
        Due.same("dips of 5 for 1", p.dips(0, 12, 8, 1), 1);
        Due.same("dips of 1 for 60", p.dips(0, 9, 9, 60), 60);
        Due.same("dips by 1 at least", p.dips(0, 12, 1, 60), 5);
        Due.same("dips for none", p.dips(0, 8, 9, 0), 0);
        Due.same("dips of none", p.dips(0, 8, 9, 1), PotatoPrints.NONE);
        Due.same("dips for 61", p.dips(0, 8, 9, 61), PotatoPrints.BAD);
        Due.same("dips for -1", p.dips(0, 8, 9, -1), PotatoPrints.BAD);
        Due.statuses("none is not refused", p, 2, 0, 0);
    }

    private static void edge() {
        PotatoPrints p = new PotatoPrints();
        int[][] some = {{4, 0, 1, 0}, {4, 9, 1, 0}, {7, 0, 1, 3}, {8, 0, 2, 0}, {8, 1, 1, 4}, {9, 1, 2, 0},
            {10, 1, 2, 1}, {16, 9, 1, 12}, {17, 9, 2, 0}, {99, 0, 24, 3}, {99, 1, 20, 0}, {99, 9, 8, 4}, {99, 2, 16, 5}};
        for (int[] s : some) {
            Due.same("edge(" + s[0] + ", " + s[1] + ", 0)", p.edge(s[0], s[1], 0), s[2]);
            Due.same("edge(" + s[0] + ", " + s[1] + ", 1)", p.edge(s[0], s[1], 1), s[3]);
        }
        int[][] bad = {{3, 0, 0}, {100, 0, 0}, {4, -1, 0}, {4, 10, 0}, {4, 0, -1}, {4, 0, 2}, {LEAST, LEAST, LEAST}};
        for (int[] b : bad) {
            Due.same("a bad edge", p.edge(b[0], b[1], b[2]), PotatoPrints.BAD);
        }
        Due.statuses("edge", p, 7, 0, 0);
    }

    private static void gap() {
        PotatoPrints p = new PotatoPrints();
        // 7: one print whatever the gap; 11: 4 3 4; 13: 4 5 4, or 13 less 12 by 0; 14: 4 1 4 1 4; 15: 4 7 4.
        int[][] some = {{4, 0}, {7, 0}, {8, 0}, {9, 1}, {10, 2}, {11, 3}, {12, 0}, {13, 5}, {14, 1}, {15, 7}, {17, 9}, {99, 1}};
        for (int[] s : some) {
            Due.same("gap(" + s[0] + ")", p.gap(s[0]), s[1]);
        }
        for (int bad : new int[] {3, 100, LEAST, MOST}) {
            Due.same("gap(" + bad + ")", p.gap(bad), PotatoPrints.BAD);
        }
    }

    private static void hit() {
        PotatoPrints p = withCorner(9);
        Due.same("nothing is dark", p.hit(0, 0), PotatoPrints.NONE);
        Due.same("nothing is dark, where", p.hit(0, 1), PotatoPrints.NONE);
        p.print(0, 0, 4, 3, 3);
        Due.same("all three", p.hit(0, 0), 3);
        Due.same("where", p.hit(0, 1), 334);
        Due.same("a potato of nothing", p.hit(1, 0), PotatoPrints.NONE);
        p.cut(1, 65535);
        Due.same("a full one", p.hit(1, 0), 3);
        Due.same("the first of like ones", p.hit(1, 1), 12);
        p.cut(1, 1);
        Due.same("a single one", p.hit(1, 1), 31);
        PotatoPrints q = withCorner(9);
        q.print(0, 0, 7, 7, 3);
        Due.same("all of it on the sheet", q.hit(0, 0), 1);
        Due.same("so turned once", q.hit(0, 1), 144);
        q.cut(0, 0x0660);
        Due.same("it can not come there", q.hit(0, 0), PotatoPrints.NONE);
        int[][] bad = {{-1, 0}, {2, 0}, {0, -1}, {0, 2}};
        for (int[] b : bad) {
            Due.same("a bad hit", q.hit(b[0], b[1]), PotatoPrints.BAD);
        }
        Due.statuses("none is not refused", q, 4, 0, 0);
        hitAtTheEdges();
    }

    private static void hitAtTheEdges() {
        int[][] cells = {{7, 3}, {3, 7}, {0, 3}, {3, 0}};
        for (int[] c : cells) {
            PotatoPrints p = new PotatoPrints();
            p.cut(0, 8);
            p.cut(1, 0x0660);
            p.dip(1);
            p.print(0, 0, c[0], c[1], 0);
            Due.same("one cell of 1 is dark", p.count(0), 1);
            Due.same("the middle comes not to the rim", p.hit(1, 0), PotatoPrints.NONE);
            Due.same("nor anywhere", p.hit(1, 1), PotatoPrints.NONE);
        }
        PotatoPrints p = new PotatoPrints();
        p.cut(0, 65535);
        p.dip(9);
        p.print(0, 0, 0, 0, 0);
        Due.same("all sixteen", p.hit(0, 0), 16);
        Due.same("at the first place", p.hit(0, 1), 0);
    }

    private static void want() {
        PotatoPrints p = new PotatoPrints();
        int[][] bad = {{-1, 0}, {8, 0}, {0, -1}, {0, 8}};
        for (int[] b : bad) {
            Due.same("a bad want", p.want(b[0], b[1]), PotatoPrints.BAD);
        }
        for (int i = 1; i <= 8; i++) {
            Due.same("want, the same again", p.want(7, 7), i);
        }
        Due.same("the ninth", p.want(7, 7), PotatoPrints.FULL);
        Due.same("bad ahead of full", p.want(8, 7), PotatoPrints.BAD);
        Due.counts("want", p, 0, 0, 8, 0, 0, 0);
        Due.statuses("want", p, 5, 0, 1);
    }

    private static void cover() {
        PotatoPrints p = new PotatoPrints();
        p.cut(0, CORNER);
        Due.same("no wanted", p.cover(0, 0), 0);
        Due.same("no wanted, first", p.cover(0, 1), PotatoPrints.NONE);
        p.want(2, 2);
        p.want(3, 2);
        Due.same("one print", p.cover(0, 0), 1);
        // Not turned its upper cells are columns 2, 3 of row 0: at 0, 2.
        Due.same("the least", p.cover(0, 1), 20);
        p.want(2, 3);
        Due.same("the corner itself", p.cover(0, 0), 1);
        Due.same("turned three times", p.cover(0, 1), 322);
        p.want(3, 3);
        Due.same("two", p.cover(0, 0), 2);
        // At 0, 1, not turned, it covers 3, 2 alone; turned twice at 2, 0 all the others.
        Due.same("the least of two", p.cover(0, 1), 10);
        Due.same("a potato of nothing", p.cover(1, 0), PotatoPrints.NONE);
        Due.same("a potato of nothing, first", p.cover(1, 1), PotatoPrints.NONE);
        p.want(7, 7);
        Due.same("no two", p.cover(0, 0), PotatoPrints.NONE);
        Due.same("no two, first", p.cover(0, 1), PotatoPrints.NONE);
        p.cut(1, 65535);
        Due.same("two of another", p.cover(1, 0), 2);
        Due.same("its least", p.cover(1, 1), 0);
        p.forget(0);
        p.want(0, 7);
        Due.same("beyond the sheet for the rest", p.cover(0, 0), 1);
        Due.same("cell 0 of column 0, turned twice", p.cover(0, 1), 240);
        p.forget(0);
        p.want(0, 0);
        Due.same("the first place", p.cover(1, 1), 0);
        p.cut(0, 1);
        Due.same("turned three times at the first place", p.cover(0, 1), 300);
        p.cut(0, 8);
        Due.same("not turned at the first place", p.cover(0, 1), 0);
        p.cut(0, 1 << 15);
        Due.same("turned once at the first place", p.cover(0, 1), 100);
        int[][] bad = {{-1, 0}, {2, 0}, {0, -1}, {0, 2}};
        for (int[] b : bad) {
            Due.same("a bad cover", p.cover(b[0], b[1]), -10);
        }
        Due.statuses("it counts as bad", p, 4, 0, 0);
    }

    private static void shrinks() {
        PotatoPrints p = new PotatoPrints();
        p.cut(0, 65535);
        // A cross of five around column 1, row 2, and a cell in the corner.
        p.cut(1, 1 << 5 | 7 << 8 | 1 << 13 | 1 << 3);
        int[] full = {65535, 1632, 0, 0, 0};
        int[] cross = {1 << 5 | 7 << 8 | 1 << 13 | 1 << 3, 1 << 9, 0, 0, 0};
        for (int h = 0; h <= 4; h++) {
            Due.same("shrinks(0, " + h + ")", p.shrinks(0, h), full[h]);
            Due.same("shrinks(1, " + h + ")", p.shrinks(1, h), cross[h]);
        }
        Due.same("it is as it was", p.cut(0, 0xFFFE), 65535);
        Due.same("beside means no corner", p.shrinks(0, 1), 1632);
        int[][] bad = {{-1, 0}, {2, 0}, {0, -1}, {0, 5}, {0, MOST}};
        for (int[] b : bad) {
            Due.same("bad shrinks", p.shrinks(b[0], b[1]), PotatoPrints.BAD);
        }
    }

    private static void gone() {
        PotatoPrints p = new PotatoPrints();
        Due.same("nothing was", p.gone(0), 0);
        p.cut(0, 1);
        Due.same("one cell", p.gone(0), 1);
        p.cut(0, 65535);
        Due.same("all", p.gone(0), 2);
        p.cut(1, 0xFFFF ^ 1 << 5 ^ 1 << 10);
        Due.same("two of the middle", p.gone(1), 1);
        Due.same("gone(2)", p.gone(2), PotatoPrints.BAD);
        Due.same("gone(-1)", p.gone(-1), PotatoPrints.BAD);
        Due.statuses("gone", p, 2, 0, 0);
    }

    private static void seen() {
        PotatoPrints p = new PotatoPrints();
        int[][] bad = {{-1, 0, 0}, {8, 0, 0}, {0, -1, 0}, {0, 8, 0}, {0, 0, -1}, {0, 0, 2}};
        for (int[] b : bad) {
            Due.same("bad seen", p.seen(b[0], b[1], b[2]), PotatoPrints.BAD);
        }
        for (int i = 1; i <= 8; i++) {
            Due.same("seen, the same, other", p.seen(7, 7, i % 2), i);
        }
        Due.same("the ninth", p.seen(7, 7, 0), PotatoPrints.FULL);
        Due.same("bad ahead of full", p.seen(7, 7, 2), PotatoPrints.BAD);
        Due.counts("seen", p, 0, 0, 0, 8, 0, 0);
        Due.statuses("seen", p, 7, 0, 1);
    }

    private static void forget() {
        PotatoPrints p = new PotatoPrints();
        p.want(1, 1);
        p.want(2, 2);
        p.seen(3, 3, 1);
        Due.same("forget(2)", p.forget(2), PotatoPrints.BAD);
        Due.same("forget(-1)", p.forget(-1), PotatoPrints.BAD);
        Due.counts("ahead", p, 0, 0, 2, 1, 0, 0);
        Due.same("forget(0)", p.forget(0), 2);
        Due.counts("between", p, 0, 0, 0, 1, 0, 0);
        Due.same("forget(1)", p.forget(1), 1);
        Due.counts("behind", p, 0, 0, 0, 0, 0, 0);
        Due.same("forget(0) again", p.forget(0), 0);
        Due.same("forget(1) again", p.forget(1), 0);
    }

    // Columns 0 and 1 of row 0, seen inked at 7, 7: eight prints come there, two of them on 6, 7 and two on 7, 6.
    private static PotatoPrints barSeen() {
        PotatoPrints p = new PotatoPrints();
        p.cut(0, 3);
        p.seen(7, 7, 1);
        return p;
    }

    private static void which() {
        PotatoPrints p = barSeen();
        Due.same("eight", p.which(0, 0), 8);
        Due.same("the first", p.which(0, 1), 74);
        p.seen(6, 7, 0);
        Due.same("six", p.which(0, 0), 6);
        Due.same("the first of six", p.which(0, 1), 75);
        p.seen(7, 6, 1);
        Due.same("two", p.which(0, 0), 2);
        Due.same("the first of two", p.which(0, 1), 144);
        p.seen(0, 0, 1);
        Due.same("none", p.which(0, 0), 0);
        Due.same("no first", p.which(0, 1), PotatoPrints.NONE);
        Due.same("none of a potato of nothing", p.which(1, 0), 0);
        p.forget(1);
        Due.same("forgotten is not seen", p.which(0, 0), 256);
        p.seen(7, 6, 0);
        Due.same("all of a potato of nothing", p.which(1, 0), 256);
        Due.same("its first", p.which(1, 1), 0);
        p.dip(9);
        p.print(0, 0, 0, 0, 0);
        Due.same("whatever is on the sheet", p.which(1, 0), 256);
        int[][] bad = {{-1, 0}, {2, 0}, {0, -1}, {0, 2}};
        for (int[] b : bad) {
            Due.same("a bad which", p.which(b[0], b[1]), -10);
        }
        Due.statuses("it counts as bad", p, 4, 0, 0);
    }

    private static void look() {
        PotatoPrints p = barSeen();
        Due.same("7, 6 ahead of 6, 7", p.look(0), 55);
        p.seen(7, 6, 0);
        Due.same("then 6, 7", p.look(0), 62);
        p.seen(6, 7, 1);
        Due.same("two alike: the first cell", p.look(0), 0);
        p.seen(6, 7, 0);
        Due.same("no print", p.look(0), PotatoPrints.NONE);
        PotatoPrints q = new PotatoPrints();
        q.cut(0, 3);
        q.seen(6, 7, 1);
        q.seen(5, 7, 0);
        q.seen(6, 6, 0);
        Due.same("two of four come on the last cell", q.look(0), 63);
        Due.same("look(2)", p.look(2), PotatoPrints.BAD);
        Due.same("look(-1)", p.look(-1), PotatoPrints.BAD);
        Due.statuses("look", p, 2, 0, 0);
    }

    private static void bitten() {
        PotatoPrints p = new PotatoPrints();
        p.cut(0, CORNER);
        Due.same("nothing seen, cells", p.bitten(0, 2, 2, 3, 0), 0);
        Due.same("nothing seen, can be", p.bitten(0, 2, 2, 3, 1), 1);
        p.seen(3, 2, 0);
        Due.same("as it lies: column 0, row 1", p.bitten(0, 2, 2, 3, 0), 16);
        p.seen(2, 3, 0);
        Due.same("and column 1, row 0", p.bitten(0, 2, 2, 3, 0), 18);
        p.seen(3, 3, 0);
        Due.same("where it does not print nothing goes", p.bitten(0, 2, 2, 3, 0), 18);
        p.seen(2, 2, 1);
        Due.same("it can be", p.bitten(0, 2, 2, 3, 1), 1);
        Due.same("not elsewhere", p.bitten(0, 3, 3, 3, 1), 0);
        Due.same("not turned", p.bitten(0, 0, 2, 0, 0), 17);
        p.seen(7, 7, 1);
        Due.same("it can not be", p.bitten(0, 2, 2, 3, 1), 0);
        Due.same("cells all the same", p.bitten(0, 2, 2, 3, 0), 18);
        Due.same("a potato of nothing", p.bitten(1, 2, 2, 3, 0), 0);
        int[][] bad = {{-1, 0, 0, 0, 0}, {2, 0, 0, 0, 0}, {0, -1, 0, 0, 0}, {0, 8, 0, 0, 0}, {0, 0, -1, 0, 0},
            {0, 0, 8, 0, 0}, {0, 0, 0, -1, 0}, {0, 0, 0, 4, 0}, {0, 0, 0, 0, -1}, {0, 0, 0, 0, 2}};
        for (int[] b : bad) {
            Due.same("bad bitten", p.bitten(b[0], b[1], b[2], b[3], b[4]), PotatoPrints.BAD);
        }
        Due.statuses("bitten", p, 10, 0, 0);
    }

    private static void chance(PotatoPrints p, int kind, int n, int c, int cell, long above, long below) {
        String call = "slips(" + kind + ", 0, 0, 0, " + n + ", " + c + ", " + cell + ")";
        Due.same(call, p.slips(kind, 0, 0, 0, n, c, cell), 1);
        Due.same(call + ", above", p.part(0), above);
        Due.same(call + ", below", p.part(1), below);
    }

    private static void slips() {
        PotatoPrints p = new PotatoPrints();
        p.cut(0, 1);
        p.dip(5);
        chance(p, 0, 1, 3, 3, 7, 10);
        chance(p, 0, 1, 3, 4, 3, 10);
        chance(p, 0, 1, 3, 5, 0, 1);
        chance(p, 0, 2, 3, 3, 91, 100);
        chance(p, 0, 2, 3, 4, 51, 100);
        chance(p, 0, 1, 5, 4, 1, 2);
        chance(p, 0, 1, 0, 3, 1, 1);
        chance(p, 0, 1, 10, 3, 0, 1);
        chance(p, 0, 0, 0, 3, 0, 1);
        chance(p, 0, 5, 1, 4, 40951, 100000);
        chance(p, 0, 2, 2, 4, 9, 25);
        chance(p, 5, 1, 3, 4, 1, 1);
        chance(p, 5, 1, 3, 5, 3, 10);
        p.dip(1);
        chance(p, 0, 5, 1, 4, 1, 10);
        p.dip(3);
        chance(p, 1, 5, 1, 4, 19, 100);
        chance(p, 4, 1, 3, 3, 0, 1);
        chance(p, 4, 1, 3, 4, 3, 10);
        p.dip(9);
        chance(p, 3, 2, 3, 4, 79, 100);
        Due.same("paint stays", p.count(1), 9);
        p.print(0, 0, 0, 0, 0);
        chance(p, 0, 1, 3, 5, 0, 1);
        chance(p, 0, 0, 3, 3, 0, 1);
        p.dip(0);
        chance(p, 0, 5, 5, 3, 0, 1);
        chance(p, 0, 5, 5, 0, 0, 1);
        p.dip(1);
        chance(p, 5, 5, 0, 4, 1, 1);
        p.cut(0, 8);
        chance(p, 0, 1, 3, 0, 7, 10);
        p.cut(0, 1);
        p.dip(9);
        Due.same("at the edge", p.slips(0, 0, 4, 7, 1, 3, 63), 1);
        Due.same("what slips beyond is lost", p.part(0), 7);
        badSlips(p);
    }

    private static void badSlips(PotatoPrints p) {
        int[][] bad = {{6, 0, 0, 0, 0, 0, 0}, {-1, 0, 0, 0, 0, 0, 0}, {0, 2, 0, 0, 0, 0, 0}, {0, -1, 0, 0, 0, 0, 0},
            {0, 0, 8, 0, 0, 0, 0}, {0, 0, -1, 0, 0, 0, 0}, {0, 0, 0, 8, 0, 0, 0}, {0, 0, 0, -1, 0, 0, 0},
            {0, 0, 0, 0, 6, 0, 0}, {0, 0, 0, 0, -1, 0, 0}, {0, 0, 0, 0, 0, 11, 0}, {0, 0, 0, 0, 0, -1, 0},
            {0, 0, 0, 0, 0, 0, 64}, {0, 0, 0, 0, 0, 0, -1}};
        long above = p.part(0);
        for (int[] b : bad) {
            Due.same("bad slips", p.slips(b[0], b[1], b[2], b[3], b[4], b[5], b[6]), PotatoPrints.BAD);
            Due.same("the fraction stays", p.part(0), above);
        }
        Due.statuses("slips", p, 14, 0, 0);
    }

    private static void sheets() {
        PotatoPrints p = new PotatoPrints();
        p.cut(0, CORNER);
        p.cut(1, 65535);
        // The first print by 0 is plain, of potato 0, at 4, 0, turned once: three cells of 9.
        int[][] some = {{0, 0, 0}, {0, 1, 27}, {0, 2, 108}, {0, 3, 113}, {1, 1, 15}, {1, 5, 202}, {7, 10, 222},
            {42, 30, 420}, {999999, 30, 336}};
        for (int[] s : some) {
            Due.same("sheets(" + s[0] + ", " + s[1] + ")", p.sheets(s[0], s[1]), s[2]);
        }
        Due.counts("nothing is changed", p, 0, 0, 0, 0, 0, 0);
        p.dip(5);
        Due.same("by the paint that is there", p.sheets(7, 10), 156);
        p.dip(9);
        p.print(0, 0, 4, 0, 1);
        long ahead = p.digest();
        Due.same("from the sheet that is there", p.sheets(0, 0), 27);
        Due.same("the first on the same cells", p.sheets(0, 1), 27);
        Due.same("all stays", p.digest(), ahead);
        p.print(0, 0, 0, 0, 3);
        Due.same("and on the first cell", p.sheets(0, 0), 27 + 24);
        int[][] bad = {{-1, 0}, {1000000, 0}, {0, -1}, {0, 31}, {LEAST, 1}, {MOST, 1}};
        for (int[] b : bad) {
            Due.same("bad sheets", p.sheets(b[0], b[1]), PotatoPrints.BAD);
        }
    }

    private static void part() {
        PotatoPrints p = new PotatoPrints();
        Due.same("part(2)", p.part(2), PotatoPrints.BAD);
        Due.same("part(-1)", p.part(-1), PotatoPrints.BAD);
        p.cut(0, 1);
        p.dip(5);
        p.slips(0, 0, 0, 0, 1, 4, 3);
        Due.same("part(0)", p.part(0), 3);
        Due.same("part(1)", p.part(1), 5);
        Due.statuses("part", p, 2, 0, 0);
    }

    private static void image() {
        PotatoPrints p = busy();
        Due.same("image(0)", p.image(0), 1);
        long kept = p.digest();
        p.undo();
        p.undo();
        p.cut(0, 5);
        p.cut(1, 6);
        p.forget(0);
        p.forget(1);
        p.want(0, 0);
        p.seen(0, 0, 0);
        for (int i = 0; i < 8; i++) {
            p.dip(12 - i);
            p.print(0, 1, 4, i, 0);
        }
        Due.same("from(0)", p.from(0), 1);
        Due.same("all as it was", p.digest(), kept);
        Due.same("it can be undone from there", p.undo(), 9);
        Due.sheet("undone", p);
        p.undo();
        Due.same("from(0) again", p.from(0), 1);
        Due.same("the image stays as it was", p.digest(), kept);
        p.type('x');
        p.slips(0, 0, 0, 0, 1, 2, 2);
        p.from(0);
        Due.same("the text is no part of it", p.count(5), 1);
        Due.same("nor the fraction", p.part(1), 5);
        Due.same("nor the status", p.status(0), 1);
        p.table(3);
        p.image(0);
        p.from(1);
        Due.counts("the other image", p, 3, 8, 1, 1, 2, 1);
        p.from(0);
        Due.counts("kept anew", p, 0, 3, 0, 0, 0, 1);
        PotatoPrints q = new PotatoPrints();
        Due.same("none was kept", q.from(0), PotatoPrints.NO);
        q.image(1);
        Due.same("nor this one", q.from(0), PotatoPrints.NO);
        Due.same("this one was", q.from(1), 1);
        for (int bad : new int[] {-1, 2, LEAST, MOST}) {
            Due.same("image(" + bad + ")", q.image(bad), PotatoPrints.BAD);
            Due.same("from(" + bad + ")", q.from(bad), PotatoPrints.BAD);
        }
        Due.statuses("image, from", q, 8, 2, 0);
    }

    private static void status() {
        PotatoPrints p = new PotatoPrints();
        Due.same("status(3)", p.status(3), -1);
        Due.same("status(-1)", p.status(-1), -1);
        Due.same("status(MOST)", p.status(MOST), -1);
        Due.statuses("they count as bad", p, 3, 0, 0);
        p.cover(0, 9);
        p.which(0, 9);
        p.undo();
        p.print(0, 0, 0, 0, 0);
        for (int i = 0; i < 9; i++) {
            p.want(0, 0);
        }
        Due.statuses("each by reason", p, 5, 2, 1);
        p.image(0);
        p.table(0);
        p.from(0);
        Due.statuses("neither table nor image takes them", p, 5, 2, 1);
    }

    private static void count() {
        PotatoPrints p = busy();
        p.type('a');
        Due.counts("busy", p, 3, 8, 1, 1, 2, 1);
        for (int bad : new int[] {-1, 6, LEAST, MOST}) {
            Due.same("count(" + bad + ")", p.count(bad), PotatoPrints.BAD);
        }
        Due.statuses("count", p, 5, 0, 0);
    }

    private static void digest() {
        long[] fresh = new long[74];
        fresh[73] = 1;
        Due.same("digest of a new one", new PotatoPrints().digest(), digestOf(fresh));
        PotatoPrints p = withCorner(9);
        p.cut(1, 7);
        p.dip(9);
        p.print(0, 0, 0, 0, 3);
        p.want(1, 2);
        p.want(7, 0);
        p.seen(3, 4, 1);
        p.seen(5, 6, 0);
        p.slips(0, 0, 0, 0, 1, 2, 2);
        p.type('a');
        long[] all = new long[6 + 2 + 64 + 2 + 4 + 2];
        long[] first = {3, 8, 2, 2, 2, 1, CORNER, 7, 9, 9};
        System.arraycopy(first, 0, all, 0, first.length);
        all[8 + 8] = 9;
        long[] last = {17, 7, 35, 1, 53, 0, 4, 5};
        System.arraycopy(last, 0, all, 72, last.length);
        Due.same("digest", p.digest(), digestOf(all));
    }

    private static long digestOf(long[] numbers) {
        long h = 1021;
        for (long v : numbers) {
            h = 31 * h + v;
        }
        return h;
    }
}
