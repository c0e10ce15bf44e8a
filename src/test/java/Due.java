/** Compares answers with those that are due, prints every one that differs and ends a test with its exit code. */
final class Due {
    private static int compared = 0;
    private static int wrong = 0;

    private Due() {
    }

    static void same(String call, long got, long want) {
        compared++;
        if (got != want) {
            wrong++;
            System.out.println(call + " answered " + got + ", due is " + want);
        }
    }

    static void holds(String what, boolean isSo) {
        same(what, isSo ? 1 : 0, 1);
    }

    /** Puts a whole text in place of the one that is there. */
    static void write(PotatoPrints prints, String text) {
        prints.clear();
        for (int i = 0; i < text.length(); i++) {
            prints.type(text.charAt(i));
        }
    }

    static void end(String test) {
        System.out.println(test + ": " + compared + " compared, " + wrong + " wrong");
        if (wrong != 0 || compared == 0) {
            System.exit(1);
        }
    }
}
