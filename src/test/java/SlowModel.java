import java.math.BigInteger;
import java.util.ArrayList;
import java.util.Arrays;
import java.util.HashSet;
import java.util.List;
import java.util.Set;
import java.util.TreeMap;
import java.util.regex.Matcher;
import java.util.regex.Pattern;

/**
 * The document told a second time, by other means: points in sets, a copy of the whole state for each undo, every
 * outcome of the slips counted. It answers what PotatoPrints should; ModelTest compares them.
 */
final class SlowModel {
    private record Point(int x, int y) {
    }

    private record Seen(Point at, boolean inked) {
    }

    private record Put(int t, int y, int x) {
        int number() {
            return 100 * t + 10 * y + x;
        }
    }

    /** Plain; the other kinds are under it as the document has them. */
    private static class Plain {
        int darkness(int p) {
            return Math.min(p, 9);
        }

        int wishes() {
            return 1;
        }

        final int takes(int p) {
            return Math.min(wishes(), p);
        }

        TreeMap<Integer, Integer> ink(Set<Point> shape, int x, int y, int p) {
            TreeMap<Integer, Integer> ink = new TreeMap<>();
            for (Point c : shape) {
                lay(ink, x + c.x, y + c.y, darkness(p));
            }
            return ink;
        }

        static void lay(TreeMap<Integer, Integer> ink, int x, int y, int dark) {
            if (x < 8 && y < 8) {
                ink.merge(8 * y + x, dark, Math::max);
            }
        }
    }

    private static class Hard extends Plain {
        @Override
        int darkness(int p) {
            int plain = super.darkness(p);
            return plain == 0 ? 0 : Math.min(9, plain + 2);
        }

        @Override
        int wishes() {
            return super.wishes() + 1;
        }
    }

    private static class Pale extends Plain {
        @Override
        int darkness(int p) {
            int plain = super.darkness(p);
            return plain / 2 + plain % 2;
        }
    }

    private static class Slid extends Hard {
        @Override
        TreeMap<Integer, Integer> ink(Set<Point> shape, int x, int y, int p) {
            return super.ink(shape, p > 8 ? x + 1 : x, y, p);
        }
    }

    private static class Holed extends Pale {
        @Override
        TreeMap<Integer, Integer> ink(Set<Point> shape, int x, int y, int p) {
            TreeMap<Integer, Integer> ink = super.ink(shape, x, y, p);
            if (p < 4) {
                ink.keySet().removeIf(cell -> (cell / 8 + cell % 8) % 2 == 1);
            }
            return ink;
        }
    }

    private static class Smeared extends Slid {
        @Override
        int darkness(int p) {
            return Math.max(0, super.darkness(p) - 1);
        }

        @Override
        TreeMap<Integer, Integer> ink(Set<Point> shape, int x, int y, int p) {
            TreeMap<Integer, Integer> ink = super.ink(shape, x, y, p);
            super.ink(shape, x + 1, y, p).forEach((cell, dark) -> ink.merge(cell, dark / 2, Math::max));
            return ink;
        }
    }

    private static final Plain[] KINDS = {new Plain(), new Hard(), new Pale(), new Slid(), new Holed(), new Smeared()};

    private static final class State {
        int[] potatoes = new int[2];
        int[] sheet = new int[64];
        int paint = 0;
        List<Point> wanted = new ArrayList<>();
        List<Seen> seen = new ArrayList<>();
        List<State> past = new ArrayList<>();

        State copy() {
            State s = new State();
            s.potatoes = potatoes.clone();
            s.sheet = sheet.clone();
            s.paint = paint;
            s.wanted = new ArrayList<>(wanted);
            s.seen = new ArrayList<>(seen);
            s.past = new ArrayList<>(past);
            return s;
        }

        void keepPast() {
            State s = new State();
            s.sheet = sheet.clone();
            s.paint = paint;
            past.add(s);
            if (past.size() > 8) {
                past.remove(0);
            }
        }

        int print(int kind, int k, int x, int y, int t) {
            if (paint == 0) {
                return 0;
            }
            int darker = 0;
            for (var e : KINDS[kind].ink(shape(potatoes[k], t), x, y, paint).entrySet()) {
                if (e.getValue() > sheet[e.getKey()]) {
                    sheet[e.getKey()] = e.getValue();
                    darker++;
                }
            }
            paint -= KINDS[kind].takes(paint);
            return darker;
        }

        int darkCount() {
            return (int) Arrays.stream(sheet).filter(d -> d > 0).count();
        }
    }

    private State now = new State();
    private final State[] images = new State[2];
    private String text = "";
    private BigInteger above = BigInteger.ZERO, below = BigInteger.ONE;
    private final int[] refused = new int[3];

    private static Point printedAt(int bit, int t) {
        Point c = new Point(3 - bit % 4, bit / 4);
        for (int i = 0; i < t; i++) {
            c = new Point(3 - c.y, c.x);
        }
        return c;
    }

    private static Set<Point> shape(int cells, int t) {
        Set<Point> shape = new HashSet<>();
        for (int bit = 0; bit < 16; bit++) {
            if ((cells & 1 << bit) != 0) {
                shape.add(printedAt(bit, t));
            }
        }
        return shape;
    }

    private static Set<Integer> cellsOf(int cells, Put put) {
        return new Plain().ink(shape(cells, put.t), put.x, put.y, 9).keySet();
    }

    private static List<Put> puts(int last) {
        List<Put> all = new ArrayList<>();
        for (int t = 0; t < 4; t++) {
            for (int y = 0; y <= last; y++) {
                for (int x = 0; x <= last; x++) {
                    all.add(new Put(t, y, x));
                }
            }
        }
        return all;
    }

    private static boolean out(int v, int most) {
        return v < 0 || v > most;
    }

    private int bad() {
        refused[0]++;
        return -2;
    }

    private int no() {
        refused[1]++;
        return -3;
    }

    private int full() {
        refused[2]++;
        return -4;
    }

    int table(int paint) {
        if (out(paint, 12)) {
            return bad();
        }
        int were = now.darkCount();
        now = new State();
        now.paint = paint;
        return were;
    }

    int cut(int k, int cells) {
        if (out(k, 1) || out(cells, 65535)) {
            return bad();
        }
        int was = now.potatoes[k];
        now.potatoes[k] = cells;
        now.past.clear();
        return was;
    }

    int dip(int n) {
        if (out(n, 12)) {
            return bad();
        }
        now.keepPast();
        int was = now.paint;
        now.paint = n;
        return was;
    }

    private static boolean isBadPrint(int kind, int k, int x, int y, int t) {
        return out(kind, 5) || out(k, 1) || out(x, 7) || out(y, 7) || out(t, 3);
    }

    int print(int kind, int k, int x, int y, int t) {
        if (isBadPrint(kind, k, x, y, t)) {
            return bad();
        }
        if (now.paint == 0) {
            return no();
        }
        now.keepPast();
        return now.print(kind, k, x, y, t);
    }

    int undo() {
        if (now.past.isEmpty()) {
            return no();
        }
        State s = now.past.remove(now.past.size() - 1);
        now.sheet = s.sheet.clone();
        now.paint = s.paint;
        return now.paint;
    }

    int type(int c) {
        if (out(c, 127)) {
            return bad();
        }
        if (text.length() == 150) {
            return full();
        }
        text += (char) c;
        return text.length();
    }

    int clear() {
        int had = text.length();
        text = "";
        return had;
    }

    /** Stands for a place where a text can not go on. */
    private static final class Fault extends Exception {
        private static final long serialVersionUID = 1;
        final int place;

        Fault(int place) {
            this.place = place;
        }
    }

    int read() {
        Matcher m = Pattern.compile("[a-z]+|[0-9]+|(?s:[^ ])").matcher(text);
        List<String> tokens = new ArrayList<>();
        List<Integer> places = new ArrayList<>();
        while (m.find()) {
            tokens.add(m.group());
            places.add(m.start());
        }
        places.add(text.length());
        tokens.add("");
        try {
            return readTokens(tokens, places);
        } catch (Fault f) {
            return -10 - f.place;
        }
    }

    private int readTokens(List<String> tokens, List<Integer> places) throws Fault {
        State made = new State();
        int at = 0;
        int items = 0;
        do {
            int[] limits;
            String word = tokens.get(at);
            if (items == 0 && word.equals("table")) {
                limits = new int[] {12};
            } else if (items > 0 && word.equals("potato")) {
                limits = new int[] {1, 15, 15, 15, 15};
            } else if (items > 0 && word.equals("print")) {
                limits = new int[] {5, 1, 7, 7, 3};
            } else {
                throw new Fault(places.get(at));
            }
            at++;
            int[] v = new int[limits.length];
            for (int i = 0; i < v.length; i++, at++) {
                if (!tokens.get(at).matches("[0-9]{1,2}") || Integer.parseInt(tokens.get(at)) > limits[i]) {
                    throw new Fault(places.get(at));
                }
                v[i] = Integer.parseInt(tokens.get(at));
            }
            if (!tokens.get(at).equals(";")) {
                throw new Fault(places.get(at));
            }
            at++;
            items++;
            if (word.equals("table")) {
                made.paint = v[0];
            } else if (word.equals("potato")) {
                made.potatoes[v[0]] = v[1] + 16 * v[2] + 256 * v[3] + 4096 * v[4];
            } else {
                made.print(v[0], v[1], v[2], v[3], v[4]);
            }
        } while (!tokens.get(at).isEmpty());
        now = made;
        return items;
    }

    int dark(int x, int y) {
        return out(x, 7) || out(y, 7) ? bad() : now.sheet[8 * y + x];
    }

    int looks(int k, int t) {
        if (out(k, 1) || out(t, 3)) {
            return bad();
        }
        return shape(now.potatoes[k], t).stream().mapToInt(c -> 1 << 4 * c.y + c.x).sum();
    }

    int alike(int k) {
        if (out(k, 1)) {
            return bad();
        }
        int turns = 0;
        for (int t = 0; t < 4; t++) {
            if (shape(now.potatoes[k], t).equals(shape(now.potatoes[k], 0))) {
                turns += 1 << t;
            }
        }
        return turns;
    }

    int adds(int kind, int k, int x, int y, int t) {
        if (isBadPrint(kind, k, x, y, t)) {
            return bad();
        }
        return now.paint == 0 ? no() : now.copy().print(kind, k, x, y, t);
    }

    int force(int kind, int p, int what) {
        if (out(kind, 5) || out(p, 12) || out(what, 1)) {
            return bad();
        }
        return what == 0 ? KINDS[kind].darkness(p) : KINDS[kind].takes(p);
    }

    private static int onePrints(int kind, int p, int d) {
        return KINDS[kind].darkness(p) < d ? 0 : 1 + onePrints(kind, p - KINDS[kind].takes(p), d);
    }

    int fromOne(int kind, int p, int d) {
        return out(kind, 5) || out(p, 12) || out(d - 1, 8) ? bad() : onePrints(kind, p, d);
    }

    int dips(int kind, int p, int d, int n) {
        if (out(kind, 5) || out(p, 12) || out(d - 1, 8) || out(n, 60)) {
            return bad();
        }
        int each = onePrints(kind, p, d);
        for (int dips = 0; dips <= 60; dips++) {
            if (dips * each >= n) {
                return dips;
            }
        }
        return -1;
    }

    private static int[] along(int length, int g) {
        int whole = 1;
        int used = 4;
        while (used + g + 4 <= length) {
            used += g + 4;
            whole++;
        }
        return new int[] {whole, length - used};
    }

    int edge(int length, int g, int what) {
        return length < 4 || length > 99 || out(g, 9) || out(what, 1) ? bad() : along(length, g)[what];
    }

    int gap(int length) {
        if (length < 4 || length > 99) {
            return bad();
        }
        int best = 9;
        for (int g = 9; g >= 0; g--) {
            best = along(length, g)[1] <= along(length, best)[1] ? g : best;
        }
        return best;
    }

    int hit(int k, int what) {
        if (out(k, 1) || out(what, 1)) {
            return bad();
        }
        int most = 0;
        int where = -1;
        for (Put put : puts(4)) {
            int covered = (int) cellsOf(now.potatoes[k], put).stream().filter(c -> now.sheet[c] > 0).count();
            if (covered > most) {
                most = covered;
                where = put.number();
            }
        }
        return most == 0 ? -1 : what == 0 ? most : where;
    }

    int want(int x, int y) {
        if (out(x, 7) || out(y, 7)) {
            return bad();
        }
        if (now.wanted.size() == 8) {
            return full();
        }
        now.wanted.add(new Point(x, y));
        return now.wanted.size();
    }

    int cover(int k, int what) {
        if (out(k, 1) || out(what, 1)) {
            bad();
            return -10;
        }
        Set<Integer> wanted = new HashSet<>();
        now.wanted.forEach(c -> wanted.add(8 * c.y + c.x));
        if (wanted.isEmpty()) {
            return what == 0 ? 0 : -1;
        }
        List<Put> puts = puts(7);
        List<Set<Integer>> inks = new ArrayList<>();
        puts.forEach(put -> inks.add(cellsOf(now.potatoes[k], put)));
        for (int i = 0; i < puts.size(); i++) {
            if (inks.get(i).containsAll(wanted)) {
                return what == 0 ? 1 : puts.get(i).number();
            }
        }
        for (int i = 0; i < puts.size(); i++) {
            for (int j = 0; j < puts.size(); j++) {
                Set<Integer> a = inks.get(i);
                Set<Integer> b = inks.get(j);
                if (wanted.stream().allMatch(c -> a.contains(c) || b.contains(c))) {
                    return what == 0 ? 2 : puts.get(i).number();
                }
            }
        }
        return -1;
    }

    private static int anHour(int cells) {
        boolean[][] up = new boolean[6][6];
        for (int bit = 0; bit < 16; bit++) {
            up[bit / 4 + 1][bit % 4 + 1] = (cells >> bit & 1) == 1;
        }
        int stays = 0;
        for (int bit = 0; bit < 16; bit++) {
            int y = bit / 4 + 1;
            int x = bit % 4 + 1;
            if (up[y][x] && up[y - 1][x] && up[y + 1][x] && up[y][x - 1] && up[y][x + 1]) {
                stays += 1 << bit;
            }
        }
        return stays;
    }

    int shrinks(int k, int h) {
        if (out(k, 1) || out(h, 4)) {
            return bad();
        }
        int cells = now.potatoes[k];
        for (int i = 0; i < h; i++) {
            cells = anHour(cells);
        }
        return cells;
    }

    private static int hoursOf(int cells) {
        return cells == 0 ? 0 : 1 + hoursOf(anHour(cells));
    }

    int gone(int k) {
        return out(k, 1) ? bad() : hoursOf(now.potatoes[k]);
    }

    int seen(int x, int y, int inked) {
        if (out(x, 7) || out(y, 7) || out(inked, 1)) {
            return bad();
        }
        if (now.seen.size() == 8) {
            return full();
        }
        now.seen.add(new Seen(new Point(x, y), inked == 1));
        return now.seen.size();
    }

    int forget(int what) {
        if (out(what, 1)) {
            return bad();
        }
        List<?> those = what == 0 ? now.wanted : now.seen;
        int were = those.size();
        those.clear();
        return were;
    }

    private List<Put> fitting(int k) {
        List<Put> fit = new ArrayList<>();
        for (Put put : puts(7)) {
            Set<Integer> ink = cellsOf(now.potatoes[k], put);
            if (now.seen.stream().allMatch(s -> ink.contains(8 * s.at.y + s.at.x) == s.inked)) {
                fit.add(put);
            }
        }
        return fit;
    }

    int which(int k, int what) {
        if (out(k, 1) || out(what, 1)) {
            bad();
            return -10;
        }
        List<Put> fit = fitting(k);
        return what == 0 ? fit.size() : fit.isEmpty() ? -1 : fit.get(0).number();
    }

    int look(int k) {
        if (out(k, 1)) {
            return bad();
        }
        List<Put> fit = fitting(k);
        if (fit.isEmpty()) {
            return -1;
        }
        int[] inked = new int[64];
        for (Put put : fit) {
            cellsOf(now.potatoes[k], put).forEach(c -> inked[c]++);
        }
        int best = 63;
        for (int c = 63; c >= 0; c--) {
            if (Math.max(inked[c], fit.size() - inked[c]) <= Math.max(inked[best], fit.size() - inked[best])) {
                best = c;
            }
        }
        return best;
    }

    int bitten(int k, int x, int y, int t, int what) {
        if (out(k, 1) || out(x, 7) || out(y, 7) || out(t, 3) || out(what, 1)) {
            return bad();
        }
        int away = 0;
        boolean canBe = true;
        for (Seen s : now.seen) {
            boolean prints = false;
            for (int bit = 0; bit < 16; bit++) {
                Point c = printedAt(bit, t);
                if ((now.potatoes[k] >> bit & 1) == 1 && c.x + x == s.at.x && c.y + y == s.at.y) {
                    prints = true;
                    away |= s.inked ? 0 : 1 << bit;
                }
            }
            canBe &= prints || !s.inked;
        }
        return what == 0 ? away : canBe ? 1 : 0;
    }

    int slips(int kind, int k, int x, int y, int n, int c, int cell) {
        if (isBadPrint(kind, k, x, y, 0) || out(n, 5) || out(c, 10) || out(cell, 63)) {
            return bad();
        }
        long hits = 0;
        long all = 0;
        for (int slipped = 0; slipped < 1 << n; slipped++) {
            long weight = 1;
            boolean inked = false;
            int p = now.paint;
            for (int i = 0; i < n; i++) {
                int slip = slipped >> i & 1;
                weight *= slip == 1 ? c : 10 - c;
                int dark = KINDS[kind].ink(shape(now.potatoes[k], 0), x + slip, y, p).getOrDefault(cell, 0);
                inked |= p > 0 && dark > 0;
                p -= KINDS[kind].takes(p);
            }
            all += weight;
            hits += inked ? weight : 0;
        }
        BigInteger common = BigInteger.valueOf(hits).gcd(BigInteger.valueOf(all));
        above = BigInteger.valueOf(hits).divide(common);
        below = BigInteger.valueOf(all).divide(common);
        return 1;
    }

    int sheets(int seed, int n) {
        if (out(seed, 999999) || out(n, 30)) {
            return bad();
        }
        State s = now.copy();
        BigInteger number = BigInteger.valueOf(seed);
        int[] by = {6, 2, 64, 4};
        for (int i = 0; i < n; i++) {
            int[] v = new int[4];
            for (int j = 0; j < 4; j++) {
                number = number.multiply(BigInteger.valueOf(1103515245)).add(BigInteger.valueOf(12345));
                number = number.mod(BigInteger.valueOf(2147483648L));
                v[j] = number.shiftRight(16).mod(BigInteger.valueOf(by[j])).intValue();
            }
            s.paint = s.paint == 0 ? 12 : s.paint;
            s.print(v[0], v[1], v[2] & 7, v[2] >> 3, v[3]);
        }
        return Arrays.stream(s.sheet).sum();
    }

    long part(int what) {
        return out(what, 1) ? bad() : (what == 0 ? above : below).longValue();
    }

    int image(int i) {
        if (out(i, 1)) {
            return bad();
        }
        images[i] = now.copy();
        return 1;
    }

    int from(int i) {
        if (out(i, 1)) {
            return bad();
        }
        if (images[i] == null) {
            return no();
        }
        now = images[i].copy();
        return 1;
    }

    int status(int what) {
        if (out(what, 2)) {
            bad();
            return -1;
        }
        return refused[what];
    }

    private int[] counts() {
        return new int[] {now.darkCount(), now.paint, now.wanted.size(), now.seen.size(), now.past.size(), text.length()};
    }

    int count(int what) {
        return out(what, 5) ? bad() : counts()[what];
    }

    long digest() {
        List<Long> all = new ArrayList<>();
        for (int[] some : new int[][] {counts(), now.potatoes, now.sheet}) {
            for (int v : some) {
                all.add((long) v);
            }
        }
        now.wanted.forEach(c -> all.add(8L * c.y + c.x));
        now.seen.forEach(s -> {
            all.add(8L * s.at.y + s.at.x);
            all.add(s.inked ? 1L : 0L);
        });
        all.add(above.longValue());
        all.add(below.longValue());
        return all.stream().reduce(1021L, (h, v) -> 31 * h + v);
    }
}
