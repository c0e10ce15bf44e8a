import java.util.ArrayList;
import java.util.List;

/**
 * All that can be seen of an object, so that two can be compared: statuses, digest, what each undo gives back, both
 * images with what they keep to be undone, and what the text tells. Taking it uses the object up.
 */
final class Portrait {
    private final List<Long> statuses = new ArrayList<>();
    private final List<Long> rest = new ArrayList<>();

    Portrait(PotatoPrints used) {
        for (int what = 0; what < 3; what++) {
            statuses.add((long) used.status(what));
        }
        addTable(used);
        for (int i = 0; i < 2; i++) {
            rest.add((long) used.from(i));
            addTable(used);
        }
        rest.add((long) used.read());
        addTable(used);
    }

    private void addTable(PotatoPrints used) {
        rest.add(used.digest());
        for (int i = 0; i < 10; i++) {
            int paint = used.undo();
            rest.add((long) paint);
            rest.add(used.digest());
            if (paint == PotatoPrints.NO) {
                break;
            }
        }
    }

    boolean isLike(Portrait other) {
        return statuses.equals(other.statuses) && rest.equals(other.rest);
    }

    /** Whether only the status of one reason (0 BAD, 1 NO, 2 FULL) is other, and that by one more. */
    boolean isRefusedOnceMore(int reason, Portrait ahead) {
        List<Long> due = new ArrayList<>(ahead.statuses);
        due.set(reason, due.get(reason) + 1);
        return statuses.equals(due) && rest.equals(ahead.rest);
    }
}
