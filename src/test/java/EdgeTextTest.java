import java.util.List;

/** Promise 9 and the sentences that tell THE TEXT, its TOKENS and its FAULTS; the quoted words are the document's. */
public final class EdgeTextTest {
    private static final String POTATO = "potato 0 15 15 15 15;";

    public static void main(String[] args) {
        everyBeginning();
        everyByteAlone();
        everyByteWithin();
        everyNumber();
        figures();
        words();
        tableOnceFirst();
        itemsTooShortAndTooLong();
        blanks();
        theFirstFaultCounts();
        aTextOf150();
        mostItems();
        rowsAndColumns();
        printsInIt();
        takesThePlaceOfAll();
        faultsLeaveAll();
        Due.end("EdgeTextTest");
    }

    private static void reads(String text, int want) {
        PotatoPrints p = new PotatoPrints();
        Due.write(p, text);
        Due.same("read of '" + text + "'", p.read(), want);
        Due.statuses("'" + text + "' is not refused", p, 0, 0, 0);
        Due.same("'" + text + "' stays", p.count(5), text.length());
        Due.same("'" + text + "' again", p.read(), want);
    }

    private static void fault(String text, int place) {
        reads(text, -10 - place);
    }

    // "the TEXT's length, if it ends too early (an empty one, too)"; a word that is not whole is "a word that is none".
    private static void everyBeginning() {
        String whole = "table 12;potato 1 15 0 7 8; print 5 1 7 7 3;";
        for (int length = 0; length <= whole.length(); length++) {
            String text = whole.substring(0, length);
            if (length == 9) {
                reads(text, 1);
            } else if (length == 27 || length == 28) {
                reads(text, 2);
            } else if (length == 44) {
                reads(text, 3);
            } else if (length >= 1 && length <= 4) {
                fault(text, 0);
            } else if (length >= 10 && length <= 14) {
                fault(text, 9);
            } else if (length >= 29 && length <= 32) {
                fault(text, 28);
            } else {
                fault(text, length);
            }
        }
    }

    // "a byte that begins none": all but letters a .. z, figures, ; and blanks (32); of these none but "table" begins.
    private static void everyByteAlone() {
        for (char c = 0; c < 128; c++) {
            fault("" + c, c == ' ' ? 1 : 0);
            reads(c + "table 5;", c == ' ' ? 1 : -10);
            reads("table 5;" + c, c == ' ' ? 1 : -18);
            reads("table 5;" + c + "print 0 0 0 0 0;", c == ' ' ? 2 : -18);
        }
    }

    private static boolean isFigure(char c) {
        return c >= '0' && c <= '9';
    }

    private static boolean isLetter(char c) {
        return c >= 'a' && c <= 'z';
    }

    private static void everyByteWithin() {
        for (char c = 0; c < 128; c++) {
            reads("tabl" + c + " 5;", c == 'e' ? 1 : -10);
            reads("table 5" + c, c == ';' ? 1 : c == ' ' ? -18 : isFigure(c) ? -16 : -17);
            int behindOne = c == ' ' ? 1 : c == ';' ? -18 : isFigure(c) ? (c <= '2' ? 1 : -16) : -17;
            reads("table 1" + c + ";", behindOne);
            // Without a blank the word ends where the figures begin; a letter makes it another word.
            reads("table" + c + "5;", c == ' ' || c == '0' ? 1 : isLetter(c) ? -10 : -15);
            // With a figure there are three of them, which are no number, from the first one on.
            reads("table 5;potato 0" + c + "1 2 3 4;", c == ' ' ? 2 : isFigure(c) ? -25 : -26);
        }
    }

    // "a number not as told": the last that is as told, and the next, at each place a number has.
    private static void everyNumber() {
        String[] items = {"table #;", "table 5;potato # 0 0 0 0;", "table 5;potato 0 # 0 0 0;", "table 5;potato 0 0 # 0 0;",
            "table 5;potato 0 0 0 # 0;", "table 5;potato 0 0 0 0 #;", "table 5;print # 0 0 0 0;", "table 5;print 0 # 0 0 0;",
            "table 5;print 0 0 # 0 0;", "table 5;print 0 0 0 # 0;", "table 5;print 0 0 0 0 #;"};
        int[] most = {12, 1, 15, 15, 15, 15, 5, 1, 7, 7, 3};
        for (int i = 0; i < items.length; i++) {
            int place = items[i].indexOf('#');
            for (int v = 0; v <= 99; v++) {
                int due = v > most[i] ? -10 - place : i == 0 ? 1 : 2;
                reads(items[i].replace("#", "" + v), due);
                if (v < 10) {
                    reads(items[i].replace("#", "0" + v), due);
                }
            }
        }
    }

    // "figures (1 or 2 are one number)"; FAULT: "a third figure's number", at its first figure, whatever its value.
    private static void figures() {
        reads("table 00;", 1);
        reads("table 09;", 1);
        for (String number : List.of("000", "001", "012", "120", "999", "0000", "65536", "4294967296", "18446744073709551616",
                "0".repeat(100))) {
            fault("table " + number + ";", 6);
            fault("table " + number, 6);
            fault("table 5;potato " + number + " 0 0 0 0;", 15);
            fault("table 5;print 0 0 0 0 " + number + ";", 22);
        }
        fault("table 1 2;", 8);
        fault("table 1 1 1;", 8);
        fault("table -1;", 6);
        fault("table +1;", 6);
        fault("table 1.0;", 7);
    }

    // "a word that is none": shorter, longer, of other letters, or with a capital.
    private static void words() {
        for (String word : List.of("tabl", "tablet", "tables", "tabla", "xable", "tableprint", "a", "z", "tablee", "able")) {
            fault(word + " 5;", 0);
        }
        for (String word : List.of("potat", "potatoe", "potatos", "qotato", "xxxxxx", "a", "z", "potatoprint", "otato")) {
            fault("table 5;" + word + " 0 0 0 0 0;", 8);
        }
        for (String word : List.of("prin", "prints", "prinz", "qrint", "xxxxx", "rint", "printprint", "o")) {
            fault("table 5;" + word + " 0 0 0 0 0;", 8);
        }
        for (String word : List.of("Table", "TABLE", "tAble")) {
            fault(word + " 5;", 0);
        }
        // The capital within begins a token of its own; the letters ahead of it are a word that is none.
        fault("table 5;pOtato 0 0 0 0 0;", 8);
        fault("table 5;Print 0 0 0 0 0;", 8);
        fault("a".repeat(150), 0);
    }

    // "table PAINT (once, first of all)"; FAULT: "table again, anything ahead of it".
    private static void tableOnceFirst() {
        fault("potato 0 1 1 1 1;table 5;", 0);
        fault("print 0 0 0 0 0;", 0);
        fault("  print 0 0 0 0 0;table 5;", 2);
        fault(";table 5;", 0);
        fault("5 table 5;", 0);
        fault("table 5;table 5;", 8);
        fault("table 5;" + POTATO + "table 5;", 29);
        fault("table 5;table", 8);
        fault("table table", 6);
        fault("table potato", 6);
        fault("table ;", 6);
    }

    private static void itemsTooShortAndTooLong() {
        fault("table 5 5;", 8);
        fault("table 5 potato 0 0 0 0 0;", 8);
        for (String word : List.of("potato", "print")) {
            StringBuilder item = new StringBuilder("table 5;" + word);
            for (int numbers = 0; numbers <= 6; numbers++) {
                // Five numbers are whole; the sixth can not stand where ; is due.
                String text = item.toString();
                int sixth = text.length() - 1;
                reads(text + ";", numbers == 5 ? 2 : -10 - (numbers < 5 ? text.length() : sixth));
                fault(text, numbers <= 5 ? text.length() : sixth);
                if (numbers < 6) {
                    fault(text + " x", numbers <= 5 ? text.length() + 1 : sixth);
                    fault(text + " table 5;", text.length() + 1);
                }
                item.append(" 0");
            }
        }
        fault("table 5;;", 8);
        fault("table 5; ;", 9);
        fault("table 5;0", 8);
    }

    // "blanks (32) between": none or many, ahead, between and behind.
    private static void blanks() {
        fault(" ", 1);
        fault(" ".repeat(150), 150);
        reads("table5;", 1);
        reads("table 5;potato0 1 2 3 4;print0 0 0 0 0;", 3);
        reads("   table   5   ;   potato   0   1   2   3   4   ;   ", 2);
        fault("ta ble 5;", 0);
        fault("table 1 2;", 8);
        fault("table 5;potato 0 1 2 3 4;print 0 0 0 00;", 39);
        for (String other : List.of("\t", "\n", "\r", "\0", "\037", "!", "\177")) {
            fault("table" + other + "5;", 5);
            fault("table 5;" + other, 8);
        }
    }

    // "the first TOKEN that can not stand there".
    private static void theFirstFaultCounts() {
        fault("table 13;table 13;!", 6);
        fault("table 5;potato 2 16 16 16 16;", 15);
        fault("table 5;potato 1 15 16 16 16;", 20);
        fault("table 5;print 5 1 8 8 4;", 18);
        fault("table 5;! table 99;", 8);
    }

    // "a TEXT (150 bytes at most)": all of it is read, and no more.
    private static void aTextOf150() {
        String most = "table 12;" + POTATO + "print 0 0 0 0 0;".repeat(7);
        Due.same("142 bytes", most.length(), 142);
        reads(most + " ".repeat(8), 9);
        String last = most.substring(0, 141) + " ".repeat(8) + ";";
        Due.same("150 bytes", last.length(), 150);
        reads(last, 9);
        fault(last.substring(0, 149), 149);
        fault(last.substring(0, 149) + "x", 149);
        fault(last.substring(0, 149) + " ", 150);
        fault(most + " ".repeat(7) + ";", 149);
        fault(most + " " + "table 1", 143);
        PotatoPrints p = new PotatoPrints();
        Due.write(p, last.substring(0, 149) + " ");
        Due.same("a byte that does not go in", p.type(';'), PotatoPrints.FULL);
        Due.same("is not read", p.read(), -160);
        Due.same("nor is the table changed", p.count(1), 0);
    }

    // "how many ITEMS": the table's own is one.
    private static void mostItems() {
        reads("table 0;", 1);
        for (int prints = 0; prints <= 9; prints++) {
            reads("table0;" + "print0 0 0 0 0;".repeat(prints), 1 + prints);
        }
    }

    // "potato k and its rows 0 to 3 (0 .. 15 each: bit x for column x)".
    private static void rowsAndColumns() {
        for (int k = 0; k < 2; k++) {
            for (int row = 0; row < 4; row++) {
                for (int bits : new int[] {0, 1, 2, 4, 8, 15}) {
                    int[] rows = new int[4];
                    rows[row] = bits;
                    PotatoPrints p = new PotatoPrints();
                    Due.write(p, "table 5;potato " + k + " " + rows[0] + " " + rows[1] + " " + rows[2] + " " + rows[3] + ";");
                    p.read();
                    Due.same("the other potato is not cut", p.cut(1 - k, 0), 0);
                    Due.same("row " + row + " of " + bits, p.cut(k, 0), bits << 4 * row);
                }
            }
        }
        PotatoPrints p = new PotatoPrints();
        Due.write(p, "table 5;" + POTATO + "potato 0 0 0 0 0;potato 1 0 0 0 8;");
        Due.same("told again", p.read(), 4);
        Due.same("the last counts", p.cut(0, 0), 0);
        Due.same("of its own potato", p.cut(1, 0), 32768);
    }

    // "(PRINTS in it are done, NO PAINT: they make nothing)".
    private static void printsInIt() {
        PotatoPrints p = new PotatoPrints();
        Due.write(p, "table 0;" + POTATO + "print 0 0 0 0 0;print 5 0 4 4 0;");
        Due.same("without paint they are items all the same", p.read(), 4);
        Due.counts("and make nothing", p, 0, 0, 0, 0, 0);
        Due.write(p, "table 1;" + POTATO + "print 1 0 0 0 0;print 1 0 4 4 0;");
        Due.same("paint for one", p.read(), 4);
        Due.counts("one is done", p, 16, 0, 0, 0, 0);
        Due.same("by the last paint", p.dark(0, 0), 3);
        Due.write(p, "table 12;print 0 0 0 0 0;" + POTATO + "print 0 0 7 7 0;");
        Due.same("a print ahead of its potato", p.read(), 4);
        Due.counts("prints nothing and takes paint", p, 1, 10, 0, 0, 0);
        Due.write(p, "table 12;" + POTATO + "print 0 0 0 0 0;potato 0 0 0 0 0;print 0 0 4 4 0;");
        Due.same("a potato cut behind a print", p.read(), 5);
        Due.counts("takes nothing from the sheet", p, 16, 10, 0, 0, 0);
        Due.write(p, "table 9;potato 1 8 0 0 0;print 5 1 5 7 0;print 3 1 7 0 3;");
        Due.same("slid, smeared", p.read(), 4);
        Due.sheet("slid, smeared at the edges", p, "", "", "", ".......9", "", "", "", "......84");
        Due.statuses("nothing was refused", p, 0, 0, 0);
    }

    private static PotatoPrints busy() {
        PotatoPrints p = new PotatoPrints();
        p.cut(0, 65535);
        p.cut(1, 7);
        p.dip(12);
        p.print(0, 0, 0, 0, 0);
        p.image(0);
        p.print(0, 0, 4, 4, 0);
        p.image(1);
        p.slips(0, 0, 0, 0, 1, 1, 0);
        p.gone(9);
        p.from(1);
        for (int i = 0; i < 9; i++) {
            p.want(i % 8, i % 8);
            p.seen(i % 8, i % 8, 1);
        }
        return p;
    }

    // "A TABLE that is read takes the place of all but IMAGES, THE TEXT, THE FRACTION, STATUS (WANTED, SEEN none; nothing
    // to undo)."
    private static void takesThePlaceOfAll() {
        PotatoPrints p = busy();
        Due.write(p, "table 4;potato 1 8 0 0 0;print 0 1 0 0 0;");
        Due.counts("ahead", p, 32, 10, 8, 8, 3, 41);
        Due.same("read", p.read(), 3);
        Due.counts("behind", p, 1, 3, 0, 0, 0, 41);
        Due.sheet("the sheet was empty for it", p, "4");
        Due.same("potato 0 is none", p.looks(0, 0), 0);
        Due.fraction("it stays", p, 9, 10);
        Due.statuses("they stay", p, 1, 0, 2);
        Due.same("nothing to undo", p.undo(), PotatoPrints.NO);
        Due.same("the first wanted", p.want(0, 0), 1);
        Due.same("the first seen", p.seen(0, 0, 0), 1);
        p.dip(2);
        Due.same("the same text again", p.read(), 3);
        Due.counts("and the same table", p, 1, 3, 0, 0, 0, 41);
        p.from(0);
        Due.counts("image 0 stays", p, 16, 11, 0, 0, 2, 41);
        p.from(1);
        Due.counts("image 1 stays", p, 32, 10, 0, 0, 3, 41);
        p.image(0);
        p.read();
        p.from(0);
        Due.counts("an image kept since", p, 32, 10, 0, 0, 3, 41);
    }

    // "-10 less the FAULT: all stays."
    private static void faultsLeaveAll() {
        for (String text : List.of("", "table", "table 4;potato 1 8 0 0 0;print 0 1 0 0 0;x", "table 4;print 0 0 0 0 4;",
                "table 4;potato 0 0 0 0 0;potato 0 0 0 0 16;")) {
            PotatoPrints p = busy();
            Due.write(p, text);
            PotatoPrints same = busy();
            Due.write(same, text);
            Due.holds("a fault", p.read() <= -10);
            Due.holds("all stays with '" + text + "'", new Portrait(p).isLike(new Portrait(same)));
        }
    }
}
