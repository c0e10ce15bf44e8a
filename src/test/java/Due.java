/** Compares answers with those that are due, prints every one that differs and ends a test with its exit code. */
final class Due {
    private static int compared = 0;
    private static int wrong = 0;

    private Due() {
    }

    static void same(String call, long got, long want) {
        compared++;
        if (got != want) {
            wrong++;
            System.out.println(call + " answered " + got + ", due is " + want);
        }
    }

    static void holds(String what, boolean isSo) {
        same(what, isSo ? 1 : 0, 1);
    }

    /** The first of the counts, as many as are told. */
    static void counts(String when, PotatoPrints p, int... want) {
        for (int what = 0; what < want.length; what++) {
            same(when + ", count(" + what + ")", p.count(what), want[what]);
        }
    }

    static void statuses(String when, PotatoPrints p, int bad, int no, int full) {
        same(when + ", status(0)", p.status(0), bad);
        same(when + ", status(1)", p.status(1), no);
        same(when + ", status(2)", p.status(2), full);
    }

    /** Each cell of a sheet, by rows, as figures; '.' is 0, and so is what is not told. */
    static void sheet(String when, PotatoPrints p, String... rows) {
        for (int y = 0; y < 8; y++) {
            for (int x = 0; x < 8; x++) {
                char c = y < rows.length && x < rows[y].length() ? rows[y].charAt(x) : '.';
                same(when + ", dark(" + x + ", " + y + ")", p.dark(x, y), c == '.' ? 0 : c - '0');
            }
        }
    }

    static void fraction(String when, PotatoPrints p, long above, long below) {
        same(when + ", part(0)", p.part(0), above);
        same(when + ", part(1)", p.part(1), below);
    }

    /** Puts a whole text in place of the one that is there. */
    static void write(PotatoPrints prints, String text) {
        prints.clear();
        for (int i = 0; i < text.length(); i++) {
            prints.type(text.charAt(i));
        }
    }

    static void end(String test) {
        System.out.println(test + ": " + compared + " compared, " + wrong + " wrong");
        if (wrong != 0 || compared == 0) {
            System.exit(1);
        }
    }
}
