import java.util.List;
import java.util.Random;

/** Runs of drawn calls, the same ones each time, on PotatoPrints and on SlowModel: each answer is the same. */
public final class ModelTest {
    private static final int RUNS = 400, CALLS = 470;
    private static final int[] SHAPES = {0, 1, 3, 19, 1632, 33825, 58853, 62542, 65535, 0x8421, 0x7FFF};

    private final List<Call> face = Call.all();
    private final Random random;

    private ModelTest(long seed) {
        random = new Random(seed);
    }

    public static void main(String[] args) {
        for (int run = 0; run < RUNS; run++) {
            new ModelTest(run).compare(run);
        }
        Due.end("ModelTest");
    }

    private void compare(int run) {
        PotatoPrints prints = new PotatoPrints();
        SlowModel model = new SlowModel();
        // Some runs are rough (many wrong numbers), some keep their table for long.
        int wrong = run % 4 == 0 ? 10 : 60;
        boolean mayBeginAnew = run % 3 == 0;
        StringBuilder pending = new StringBuilder();
        for (int call = 0; call < CALLS; call++) {
            boolean isTyping = pending.length() > 0;
            Call drawn = isTyping ? named("type") : draw(mayBeginAnew, pending);
            int[] with = new int[drawn.takes()];
            for (int i = 0; i < with.length; i++) {
                with[i] = number(drawn.most()[i], wrong);
            }
            if (drawn.name().equals("cut") && random.nextInt(2) == 0) {
                with[1] = SHAPES[random.nextInt(SHAPES.length)];
            }
            if (isTyping) {
                with[0] = pending.charAt(0);
                pending.deleteCharAt(0);
            }
            String told = "run " + run + ", call " + call + ": " + drawn.with(with);
            Due.same(told, drawn.on(prints, with), drawn.on(model, with));
            if (call % 16 == 0) {
                Due.same(told + ", digest behind it", prints.digest(), model.digest());
            }
        }
        Due.same("run " + run + ", digest", prints.digest(), model.digest());
        for (int what = 0; what < 3; what++) {
            Due.same("run " + run + ", status", prints.status(what), model.status(what));
        }
    }

    private Call draw(boolean mayBeginAnew, StringBuilder pending) {
        int drawn = random.nextInt(100);
        if (drawn < 2) {
            pending.append(someText());
            return named("clear");
        }
        if (drawn < 6) {
            return named("read");
        }
        if (drawn < 25) {
            return named("print");
        }
        if (drawn < 32) {
            return named("dip");
        }
        Call any = face.get(random.nextInt(face.size()));
        boolean isAnew = List.of("table", "clear", "cut").contains(any.name());
        return isAnew && !mayBeginAnew && random.nextInt(4) > 0 ? named("print") : any;
    }

    private String someText() {
        StringBuilder s = new StringBuilder(random.nextInt(20) == 0 ? "" : "table " + random.nextInt(13) + ";");
        int items = random.nextInt(5);
        for (int i = 0; i < items; i++) {
            int[] last = random.nextBoolean() ? new int[] {1, 15, 15, 15, 15} : new int[] {5, 1, 7, 7, 3};
            s.append(last[1] == 15 ? "potato" : "print");
            for (int v : last) {
                s.append(random.nextInt(8) == 0 ? "  " : " ");
                s.append(random.nextInt(15) == 0 ? "0" : "").append(random.nextInt(v + 1));
            }
            s.append(";");
        }
        if (random.nextInt(3) == 0 && s.length() > 0) {
            String signs = " ;;0159abeltopnriAZ-\t{`/:";
            int at = random.nextInt(s.length());
            char c = signs.charAt(random.nextInt(signs.length()));
            switch (random.nextInt(3)) {
                case 0 -> s.setCharAt(at, c);
                case 1 -> s.insert(at, c);
                default -> s.setLength(at);
            }
        }
        return s.toString();
    }

    private int number(int last, int wrong) {
        if (random.nextInt(wrong) > 0) {
            return random.nextInt(last + 1);
        }
        int[] odd = {-1, last + 1, last, 0, Integer.MIN_VALUE, Integer.MAX_VALUE, random.nextInt()};
        return odd[random.nextInt(odd.length)];
    }

    private Call named(String name) {
        return face.stream().filter(c -> c.name().equals(name)).findFirst().orElseThrow();
    }
}
