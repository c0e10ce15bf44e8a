import java.util.List;
import java.util.Map;
import java.util.Set;
import java.util.TreeMap;
import java.util.function.Consumer;
import java.util.function.Supplier;

/**
 * For each promise: the last numbers that are as told are taken, on both sides, and the first that are not are refused;
 * a refused call answers so, is counted once, by its reason, and changes nothing else; what only asks changes nothing.
 */
public final class BoundsTest {
    private static final int BAD = 0, NO = 1, FULL = 2;
    private static final Set<String> CHANGING = Set.of("table", "cut", "dip", "print", "undo", "type", "clear", "read",
            "want", "seen", "forget", "slips", "image", "from");
    // Objects in many a state; each is made anew for each look at it.
    private static final Map<String, Supplier<PotatoPrints>> STATES = new TreeMap<>(Map.of(
            "new", PotatoPrints::new, "open", BoundsTest::open, "full", BoundsTest::full, "dry", BoundsTest::dry));

    public static void main(String[] args) {
        for (Call call : Call.all()) {
            for (String state : STATES.keySet()) {
                numbersNotAsTold(call, state);
            }
            numbersAsTold(call);
            if (!CHANGING.contains(call.name())) {
                askingChangesNothing(call);
            }
        }
        noPaint();
        nothingToUndo();
        noImage();
        nothingMoreGoesIn();
        callsWithoutNumbers();
        Due.end("BoundsTest");
    }

    /** Paint, a print, something wanted, seen, typed, kept and to be undone; nothing is full. */
    private static PotatoPrints open() {
        PotatoPrints p = new PotatoPrints();
        p.cut(0, 19);
        p.cut(1, 0x0FF1);
        p.dip(5);
        p.print(0, 0, 1, 1, 0);
        p.image(0);
        p.print(1, 1, 3, 2, 1);
        p.image(1);
        p.dip(9);
        p.print(5, 0, 0, 5, 2);
        p.want(1, 2);
        p.want(3, 3);
        p.seen(4, 4, 1);
        p.slips(0, 0, 1, 1, 1, 4, 11);
        Due.write(p, "table 3;potato 1 1 2 4 8;print 0 1 2 2 0;");
        p.dark(8, 0);
        p.undo();
        return p;
    }

    /** All that has an end is at its end. */
    private static PotatoPrints full() {
        PotatoPrints p = open();
        p.forget(0);
        p.forget(1);
        Due.write(p, "table 12;potato 0 15 15 15 15;" + "print 1 0 4 4 3;".repeat(7) + " ".repeat(8));
        for (int i = 0; i < 8; i++) {
            p.want(i, 7 - i);
            p.seen(i, i, i % 2);
            p.dip(i);
        }
        p.dip(12);
        return p;
    }

    /** As open, but without paint. */
    private static PotatoPrints dry() {
        PotatoPrints p = open();
        p.dip(0);
        return p;
    }

    private static void refused(String told, Supplier<PotatoPrints> made, Consumer<PotatoPrints> call, int reason) {
        PotatoPrints p = made.get();
        call.accept(p);
        Due.holds(told + " is counted and changes nothing else",
                new Portrait(p).isRefusedOnceMore(reason, new Portrait(made.get())));
    }

    private static void unchanged(String told, Supplier<PotatoPrints> made, Consumer<PotatoPrints> call) {
        PotatoPrints p = made.get();
        call.accept(p);
        Due.holds(told + " changes nothing", new Portrait(p).isLike(new Portrait(made.get())));
    }

    // Each number by itself, the others at their least, then at their most; then all of them at once: one refusal.
    private static void numbersNotAsTold(Call call, String state) {
        for (int[] others : new int[][] {call.least(), call.most()}) {
            for (int i = 0; i < call.takes(); i++) {
                for (int wrong : wrongOnes(call, i)) {
                    int[] with = others.clone();
                    with[i] = wrong;
                    isBad(call, state, with);
                }
            }
        }
        int[] all = call.most().clone();
        for (int i = 0; i < all.length; i++) {
            all[i]++;
        }
        if (all.length > 0) {
            isBad(call, state, all);
        }
    }

    // The nearest on both sides, the farthest, and some whose lower bits alone would be as told.
    private static int[] wrongOnes(Call call, int i) {
        int least = call.least()[i];
        int most = call.most()[i];
        return new int[] {least - 1, most + 1, Integer.MIN_VALUE, Integer.MAX_VALUE, least + (1 << 20), most + (1 << 24),
            least - (1 << 20)};
    }

    private static void isBad(Call call, String state, int[] with) {
        String told = state + ": " + call.with(with);
        Supplier<PotatoPrints> made = STATES.get(state);
        refused(told, made, p -> Due.same(told, call.on(p, with), call.refusal()), BAD);
    }

    // Every mixture of least and most numbers: none of them is refused where nothing is full and there is paint.
    private static void numbersAsTold(Call call) {
        for (int mixed = 0; mixed < 1 << call.takes(); mixed++) {
            int[] with = mixture(call, mixed);
            PotatoPrints p = open();
            long answer = call.on(p, with);
            boolean mayBeNone = List.of("dips", "hit", "cover", "which", "look").contains(call.name());
            Due.holds(call.with(with) + " is not refused: " + answer,
                    answer >= (mayBeNone ? -1 : 0) || call.name().equals("digest"));
            Due.statuses(call.with(with), p, 1, 0, 0);
        }
    }

    private static int[] mixture(Call call, int mixed) {
        int[] with = call.least().clone();
        for (int i = 0; i < with.length; i++) {
            if ((mixed >> i & 1) == 1) {
                with[i] = call.most()[i];
            }
        }
        return with;
    }

    private static void askingChangesNothing(Call call) {
        for (int mixed = 0; mixed < 1 << call.takes(); mixed++) {
            int[] with = mixture(call, mixed);
            for (String state : List.of("new", "open", "full")) {
                boolean needsPaint = call.name().equals("adds") && state.equals("new");
                if (!needsPaint) {
                    unchanged(state + ": " + call.with(with), STATES.get(state), p -> call.on(p, with));
                }
            }
        }
    }

    // Promises 5 and 13: "NO: there is no PAINT."
    private static void noPaint() {
        for (int kind = 0; kind < 6; kind++) {
            int of = kind;
            for (String state : List.of("new", "dry")) {
                String told = state + ", without paint, kind " + kind;
                Supplier<PotatoPrints> made = STATES.get(state);
                refused(told + ", print", made, p -> Due.same(told, p.print(of, 0, 3, 3, 0), PotatoPrints.NO), NO);
                refused(told + ", adds", made, p -> Due.same(told, p.adds(of, 0, 3, 3, 0), PotatoPrints.NO), NO);
            }
        }
    }

    // Promise 6: "NO: none may be." UNDO: "behind a POTATO cut none may be"; nothing behind a table, told or read.
    private static void nothingToUndo() {
        Map<String, Supplier<PotatoPrints>> made = new TreeMap<>(Map.of(
                "new", PotatoPrints::new,
                "cut", () -> behind(p -> p.cut(0, 19)),
                "table", () -> behind(p -> p.table(4)),
                "read", () -> behind(PotatoPrints::read),
                "all undone", () -> behind(BoundsTest::undoAll)));
        for (String state : made.keySet()) {
            refused("undo: " + state, made.get(state), p -> Due.same("undo: " + state, p.undo(), PotatoPrints.NO), NO);
        }
    }

    private static PotatoPrints behind(Consumer<PotatoPrints> last) {
        PotatoPrints p = open();
        last.accept(p);
        return p;
    }

    private static void undoAll(PotatoPrints p) {
        for (int left = p.count(4); left > 0; left--) {
            p.undo();
        }
    }

    // Promise 33: "NO: none was kept."
    private static void noImage() {
        for (int i = 0; i < 2; i++) {
            int which = i;
            Supplier<PotatoPrints> made = () -> {
                PotatoPrints p = new PotatoPrints();
                p.cut(0, 7);
                p.dip(3);
                p.image(1 - which);
                p.print(0, 0, 0, 0, 0);
                return p;
            };
            refused("from(" + i + ")", made, p -> Due.same("from: none", p.from(which), PotatoPrints.NO), NO);
        }
    }

    // Promises 7, 20, 24: FULL; and BAD ahead of it (numbersNotAsTold has that, in the state full).
    private static void nothingMoreGoesIn() {
        for (int c : new int[] {0, ' ', ';', 127}) {
            refused("type", BoundsTest::full, p -> Due.same("type(" + c + ")", p.type(c), PotatoPrints.FULL), FULL);
        }
        for (int xy = 0; xy < 8; xy++) {
            int at = xy;
            refused("want", BoundsTest::full, p -> Due.same("want", p.want(at, at), PotatoPrints.FULL), FULL);
            refused("seen", BoundsTest::full, p -> Due.same("seen", p.seen(at, at, 0), PotatoPrints.FULL), FULL);
            refused("seen", BoundsTest::full, p -> Due.same("seen", p.seen(at, at, 1), PotatoPrints.FULL), FULL);
        }
    }

    // clear and read are never refused: a fault of read is none of BAD, NO, FULL, and leaves all as it was.
    private static void callsWithoutNumbers() {
        for (String text : List.of("", " ", "table 13;", "table 5;potato 0 1 1 1 1;print 0 0 0 0 4;", "table 5;;")) {
            Supplier<PotatoPrints> made = () -> behind(p -> Due.write(p, text));
            unchanged("read of '" + text + "'", made, p -> Due.holds("a fault", p.read() <= -10));
        }
        for (Supplier<PotatoPrints> made : STATES.values()) {
            PotatoPrints p = made.get();
            int bad = p.status(0);
            Due.same("clear answers what it had", p.count(5), p.clear());
            Due.same("clear of nothing", p.clear(), 0);
            Due.same("read of nothing", p.read(), -10);
            Due.statuses("neither is refused", p, bad, 0, 0);
        }
    }
}
