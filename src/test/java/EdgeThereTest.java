import java.math.BigInteger;
import java.util.ArrayList;
import java.util.List;

/** Promises 31 to 36, sentence by sentence: the quoted words are the document's. */
public final class EdgeThereTest {
    private static final int ALL_UP = 65535;

    public static void main(String[] args) {
        partAtFirstAndBehind();
        imageOfANewOne();
        imagesAreApart();
        imageIsNotTouched();
        imageKeepsAll();
        imageKeepsWhatMayBeUndone();
        imageLeavesTheRest();
        fromNone();
        statusByReason();
        statusOfAnother();
        countsFromNoneToMost();
        countOfAnother();
        digestOfNoneAndMost();
        digestOfEachPart();
        Due.end("EdgeThereTest");
    }

    // Promise 31: "THE FRACTION: above (0), below (1). BAD."; "0 by 1 at first".
    private static void partAtFirstAndBehind() {
        PotatoPrints p = new PotatoPrints();
        Due.fraction("at first", p, 0, 1);
        p.cut(0, 8);
        p.dip(12);
        p.slips(0, 0, 0, 0, 5, 9, 0);
        Due.fraction("40951 of 100000", p, 40951, 100000);
        Due.same("part(2)", p.part(2), PotatoPrints.BAD);
        Due.same("part(-1)", p.part(-1), PotatoPrints.BAD);
        p.slips(6, 0, 0, 0, 0, 0, 0);
        p.image(0);
        p.table(0);
        p.from(0);
        p.undo();
        p.read();
        Due.fraction("it stays", p, 40951, 100000);
        p.slips(0, 0, 0, 0, 0, 0, 0);
        Due.fraction("none", p, 0, 1);
        Due.statuses("part", p, 3, 0, 0);
    }

    // Promise 32: "An IMAGE is kept: 1."
    private static void imageOfANewOne() {
        for (int i = 0; i < 2; i++) {
            PotatoPrints p = new PotatoPrints();
            long fresh = p.digest();
            Due.same("image(" + i + ")", p.image(i), 1);
            p.cut(1, 5);
            p.dip(3);
            p.want(1, 1);
            Due.same("from(" + i + ")", p.from(i), 1);
            Due.same("as it was", p.digest(), fresh);
            Due.same("the other was not kept", p.from(1 - i), PotatoPrints.NO);
            Due.same("nothing to undo", p.undo(), PotatoPrints.NO);
            Due.statuses("image", p, 0, 2, 0);
        }
    }

    private static void imagesAreApart() {
        PotatoPrints p = new PotatoPrints();
        p.dip(1);
        p.image(0);
        p.dip(2);
        p.image(1);
        p.dip(3);
        p.from(0);
        Due.counts("image 0", p, 0, 1, 0, 0, 1);
        p.from(1);
        Due.counts("image 1", p, 0, 2, 0, 0, 2);
        p.image(0);
        p.dip(4);
        p.from(0);
        Due.counts("image 0 kept anew", p, 0, 2, 0, 0, 2);
        p.table(9);
        p.image(1);
        p.from(0);
        Due.counts("image 0 stays", p, 0, 2, 0, 0, 2);
        p.from(1);
        Due.counts("image 1 kept anew", p, 0, 9, 0, 0, 0);
    }

    // Going on from an image changes the table alone: the image can be gone on from again.
    private static void imageIsNotTouched() {
        PotatoPrints p = new PotatoPrints();
        p.cut(0, ALL_UP);
        p.dip(9);
        p.print(0, 0, 0, 0, 0);
        p.want(1, 1);
        p.seen(2, 2, 1);
        p.image(0);
        long kept = p.digest();
        for (int round = 0; round < 3; round++) {
            p.undo();
            p.undo();
            p.dip(5);
            p.print(1, 0, 4, 4, 0);
            p.cut(0, round);
            p.cut(1, round);
            p.forget(0);
            p.forget(1);
            p.want(5, 5);
            p.seen(6, 6, 0);
            p.from(0);
            Due.same("as it was kept, round " + round, p.digest(), kept);
        }
        Due.same("undone", p.undo(), 9);
        Due.same("and once more", p.undo(), 0);
        Due.same("and no more", p.undo(), PotatoPrints.NO);
    }

    // "IMAGES 0, 1 keep all but them, THE TEXT, THE FRACTION and STATUS".
    private static void imageKeepsAll() {
        PotatoPrints p = new PotatoPrints();
        p.cut(0, ALL_UP);
        p.cut(1, 0x8001);
        for (int place = 0; place < 4; place++) {
            p.dip(12 - place);
            p.print(0, 0, place % 2 * 4, place / 2 * 4, 0);
        }
        for (int i = 0; i < 8; i++) {
            p.want(i, 7 - i);
            p.seen(7 - i, i, i % 2);
        }
        p.image(1);
        Due.counts("all is full", p, 64, 8, 8, 8, 8);
        p.table(0);
        p.from(1);
        Due.counts("and full again", p, 64, 8, 8, 8, 8);
        Due.sheet("each cell", p, "99999999", "99999999", "99999999", "99999999", "99999999", "99999999", "99999999",
                "99999999");
        Due.same("nothing more is wanted", p.want(0, 0), PotatoPrints.FULL);
        Due.same("nor seen", p.seen(0, 0, 0), PotatoPrints.FULL);
        Due.same("wanted", p.forget(0), 8);
        Due.same("seen", p.forget(1), 8);
        Due.same("potato 1", p.cut(1, 0), 0x8001);
        Due.same("potato 0", p.cut(0, 0), ALL_UP);
    }

    // "what may be undone they keep; it goes on from one".
    private static void imageKeepsWhatMayBeUndone() {
        for (int steps = 0; steps <= 9; steps++) {
            PotatoPrints p = new PotatoPrints();
            for (int i = 1; i <= steps; i++) {
                p.dip(i);
            }
            p.image(0);
            for (int i = 0; i < 9; i++) {
                p.dip(12);
            }
            p.from(0);
            int may = Math.min(steps, 8);
            Due.same(steps + " dips", p.count(4), may);
            p.dip(11);
            Due.same("one more", p.count(4), Math.min(steps + 1, 8));
            Due.same("undone", p.undo(), steps);
            for (int i = 1; i <= Math.min(steps, 7); i++) {
                Due.same(steps + " dips, undo " + i, p.undo(), steps - i);
            }
            Due.same("no more", p.undo(), PotatoPrints.NO);
            p.from(0);
            for (int i = 1; i <= may; i++) {
                Due.same(steps + " dips again, undo " + i, p.undo(), steps - i);
            }
            Due.same("no more", p.undo(), PotatoPrints.NO);
        }
        PotatoPrints p = new PotatoPrints();
        p.dip(1);
        p.cut(0, 1);
        p.image(0);
        p.dip(2);
        p.from(0);
        Due.same("behind a cut none may be, from it neither", p.undo(), PotatoPrints.NO);
    }

    private static void imageLeavesTheRest() {
        PotatoPrints p = new PotatoPrints();
        p.cut(0, 8);
        p.dip(12);
        p.image(0);
        Due.write(p, "table 7;");
        p.slips(0, 0, 0, 0, 1, 4, 0);
        p.gone(2);
        p.from(1);
        for (int i = 0; i < 9; i++) {
            p.want(i % 8, 0);
        }
        p.from(0);
        Due.counts("the text stays", p, 0, 12, 0, 0, 1, 8);
        Due.fraction("the fraction stays", p, 3, 5);
        Due.statuses("the status stays", p, 1, 1, 1);
        p.image(1);
        p.clear();
        p.from(1);
        Due.same("the text is in no image", p.count(5), 0);
    }

    // Promise 33: "BAD; NO: none was kept."
    private static void fromNone() {
        PotatoPrints p = new PotatoPrints();
        p.dip(5);
        Due.same("from(0)", p.from(0), PotatoPrints.NO);
        Due.same("from(1)", p.from(1), PotatoPrints.NO);
        Due.same("from(2)", p.from(2), PotatoPrints.BAD);
        Due.same("from(-1)", p.from(-1), PotatoPrints.BAD);
        Due.same("image(2)", p.image(2), PotatoPrints.BAD);
        Due.same("image(-1)", p.image(-1), PotatoPrints.BAD);
        Due.same("a refused image is not kept", p.from(0), PotatoPrints.NO);
        Due.counts("all stays", p, 0, 5, 0, 0, 1);
        Due.statuses("from", p, 4, 3, 0);
        p.table(1);
        Due.same("nor does a table keep one", p.from(1), PotatoPrints.NO);
        Due.write(p, "table 2;");
        p.read();
        Due.same("nor one that is read", p.from(1), PotatoPrints.NO);
    }

    // Promise 34: "STATUS: BAD (0), NO (1), FULL (2)."
    private static void statusByReason() {
        PotatoPrints p = new PotatoPrints();
        for (int i = 1; i <= 20; i++) {
            p.dip(-i);
            Due.statuses("by BAD", p, i, 0, 0);
        }
        for (int i = 1; i <= 20; i++) {
            p.undo();
            Due.statuses("by NO", p, 20, i, 0);
        }
        for (int i = 1; i <= 20; i++) {
            p.want(0, 0);
            Due.statuses("by FULL", p, 20, 20, Math.max(0, i - 8));
        }
        p.cover(2, 0);
        p.which(0, 2);
        Due.statuses("-10 counts as BAD", p, 22, 20, 12);
        p.dips(0, 0, 1, 1);
        p.hit(0, 0);
        p.cover(0, 0);
        p.which(0, 1);
        p.look(0);
        p.read();
        Due.statuses("NONE and a fault count as none", p, 22, 20, 12);
        p.print(6, 0, 0, 0, 0);
        Due.statuses("BAD ahead of NO", p, 23, 20, 12);
        p.want(8, 0);
        Due.statuses("BAD ahead of FULL", p, 24, 20, 12);
        p.slips(-1, -1, -1, -1, -1, -1, -1);
        Due.statuses("many numbers, one call", p, 25, 20, 12);
    }

    // "-1: another what (counts as BAD)".
    private static void statusOfAnother() {
        PotatoPrints p = new PotatoPrints();
        int[] others = {-1, 3, 4, Integer.MIN_VALUE, Integer.MAX_VALUE};
        for (int i = 0; i < others.length; i++) {
            Due.same("status(" + others[i] + ")", p.status(others[i]), -1);
            Due.statuses("it counts", p, i + 1, 0, 0);
        }
    }

    // Promise 35: "0 CELLS that are DARK, 1 PAINT, 2 WANTED, 3 SEEN, 4 that may be undone, 5 bytes of THE TEXT".
    private static void countsFromNoneToMost() {
        PotatoPrints p = new PotatoPrints();
        Due.counts("none", p, 0, 0, 0, 0, 0, 0);
        p.cut(0, ALL_UP);
        for (int place = 0; place < 4; place++) {
            p.dip(1);
            p.print(0, 0, place % 2 * 4, place / 2 * 4, 0);
            Due.counts("dark by 1", p, 16 * (place + 1), 0, 0, 0, 2 * (place + 1), 0);
        }
        p.dip(12);
        for (int i = 0; i < 9; i++) {
            p.want(i % 8, 0);
            p.seen(i % 8, 0, 0);
        }
        for (int i = 0; i < 151; i++) {
            p.type(' ');
        }
        Due.counts("most", p, 64, 12, 8, 8, 8, 150);
        Due.statuses("three too many", p, 0, 0, 3);
        p.forget(0);
        Due.counts("no wanted", p, 64, 12, 0, 8, 8, 150);
        p.forget(1);
        Due.counts("no seen", p, 64, 12, 0, 0, 8, 150);
        p.clear();
        Due.counts("no text", p, 64, 12, 0, 0, 8, 0);
        p.cut(1, 1);
        Due.counts("none may be undone", p, 64, 12, 0, 0, 0, 0);
        p.dip(0);
        Due.counts("no paint", p, 64, 0, 0, 0, 1, 0);
        p.table(0);
        Due.counts("none again", p, 0, 0, 0, 0, 0, 0);
    }

    private static void countOfAnother() {
        PotatoPrints p = new PotatoPrints();
        int[] others = {-1, 6, 7, Integer.MIN_VALUE, Integer.MAX_VALUE};
        for (int other : others) {
            Due.same("count(" + other + ")", p.count(other), PotatoPrints.BAD);
        }
        Due.statuses("count", p, others.length, 0, 0);
    }

    /** h by numbers of any size, and then as a long holds it. */
    private static long digestOf(List<Long> all) {
        BigInteger h = BigInteger.valueOf(1021);
        for (long v : all) {
            h = h.multiply(BigInteger.valueOf(31)).add(BigInteger.valueOf(v));
        }
        return h.longValue();
    }

    private static List<Long> list(long... numbers) {
        List<Long> all = new ArrayList<>();
        for (long v : numbers) {
            all.add(v);
        }
        return all;
    }

    private static void add(List<Long> all, int times, long v) {
        for (int i = 0; i < times; i++) {
            all.add(v);
        }
    }

    // Promise 36: "h = 1021; then h = 31 h + v for each v: ..": what is not there (WANTED, SEEN) adds none.
    private static void digestOfNoneAndMost() {
        List<Long> none = list(0, 0, 0, 0, 0, 0, 0, 0);
        add(none, 64, 0);
        none.addAll(list(0, 1));
        Due.same("of a new one", new PotatoPrints().digest(), digestOf(none));
        PotatoPrints p = new PotatoPrints();
        p.cut(0, ALL_UP);
        p.cut(1, ALL_UP);
        for (int place = 0; place < 4; place++) {
            p.dip(12);
            p.print(0, 1, place % 2 * 4, place / 2 * 4, 0);
        }
        p.dip(12);
        p.slips(0, 0, 7, 7, 5, 9, 63);
        for (int i = 0; i < 150; i++) {
            p.type(127);
        }
        List<Long> most = list(64, 12, 8, 8, 8, 150, ALL_UP, ALL_UP);
        add(most, 64, 9);
        for (int i = 0; i < 8; i++) {
            p.want(7, i);
            most.add(8L * i + 7);
        }
        for (int i = 0; i < 8; i++) {
            p.seen(i, 7, i % 2);
            most.addAll(list(56 + i, i % 2));
        }
        most.addAll(list(40951, 100000));
        Due.same("of all that can be", p.digest(), digestOf(most));
        p.forget(0);
        p.dark(-1, 0);
        p.image(0);
        most.subList(72, 80).clear();
        most.set(2, 0L);
        Due.same("no wanted; refused calls and images are not in it", p.digest(), digestOf(most));
    }

    // Each part has its place: the same number at another place, or in another order, is another digest.
    private static void digestOfEachPart() {
        for (int k = 0; k < 2; k++) {
            List<Long> all = list(0, 0, 0, 0, 0, 0, k == 0 ? 77 : 0, k == 1 ? 77 : 0);
            add(all, 64, 0);
            all.addAll(list(0, 1));
            PotatoPrints p = new PotatoPrints();
            p.cut(k, 77);
            Due.same("potato " + k, p.digest(), digestOf(all));
        }
        for (int cell = 0; cell < 64; cell++) {
            PotatoPrints p = new PotatoPrints();
            p.cut(0, 8);
            p.dip(1);
            p.print(0, 0, cell % 8, cell / 8, 0);
            List<Long> all = list(1, 0, 0, 0, 2, 0, 8, 0);
            add(all, 64, 0);
            all.set(8 + cell, 1L);
            all.addAll(list(0, 1));
            Due.same("cell " + cell, p.digest(), digestOf(all));
        }
        PotatoPrints p = new PotatoPrints();
        p.want(3, 5);
        p.want(5, 3);
        p.seen(7, 0, 1);
        p.seen(0, 7, 0);
        p.type('x');
        List<Long> all = list(0, 0, 2, 2, 0, 1, 0, 0);
        add(all, 64, 0);
        all.addAll(list(43, 29, 7, 1, 56, 0, 0, 1));
        Due.same("as they come", p.digest(), digestOf(all));
    }
}
