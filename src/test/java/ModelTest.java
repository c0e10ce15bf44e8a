import java.lang.reflect.Method;
import java.util.Arrays;
import java.util.Comparator;
import java.util.HashMap;
import java.util.Map;
import java.util.Random;

/** Runs of drawn calls, the same ones each time, on PotatoPrints and on SlowModel: each answer is the same. */
public final class ModelTest {
    private static final int RUNS = 400, CALLS = 512;
    private static final int[] SHAPES = {0, 1, 3, 19, 1632, 33825, 58853, 62542, 65535, 0x8421, 0x7FFF};

    private final Map<String, int[]> most = new HashMap<>();
    private final Method[] face;
    private final Random random;

    private ModelTest(long seed) {
        random = new Random(seed);
        face = Arrays.stream(PotatoPrints.class.getDeclaredMethods())
                .filter(m -> java.lang.reflect.Modifier.isPublic(m.getModifiers()))
                .sorted(Comparator.comparing(Method::getName)).toArray(Method[]::new);
        String[] told = {"table 12", "cut 1 65535", "dip 12", "print 5 1 7 7 3", "type 127", "dark 7 7", "looks 1 3",
            "alike 1", "adds 5 1 7 7 3", "force 5 12 1", "fromOne 5 12 9", "dips 5 12 9 60", "edge 99 9 1", "gap 99",
            "hit 1 1", "want 7 7", "cover 1 1", "shrinks 1 4", "gone 1", "seen 7 7 1", "forget 1", "which 1 1",
            "look 1", "bitten 1 7 7 3 1", "slips 5 1 7 7 5 10 63", "sheets 999999 30", "part 1", "image 1", "from 1",
            "status 2", "count 5"};
        for (String t : told) {
            String[] words = t.split(" ");
            most.put(words[0], Arrays.stream(words).skip(1).mapToInt(Integer::parseInt).toArray());
        }
    }

    public static void main(String[] args) throws Exception {
        for (int run = 0; run < RUNS; run++) {
            new ModelTest(run).compare(run);
        }
        Due.end("ModelTest");
    }

    private void compare(int run) throws Exception {
        PotatoPrints prints = new PotatoPrints();
        SlowModel model = new SlowModel();
        // Some runs are rough (many wrong numbers), some keep their table for long.
        int wrong = run % 4 == 0 ? 10 : 60;
        boolean mayBeginAnew = run % 3 == 0;
        StringBuilder pending = new StringBuilder();
        for (int call = 0; call < CALLS; call++) {
            boolean isTyping = pending.length() > 0;
            Method m = isTyping ? named("type") : draw(mayBeginAnew, pending);
            Object[] with = new Object[m.getParameterCount()];
            int[] last = most.getOrDefault(m.getName(), new int[0]);
            for (int i = 0; i < with.length; i++) {
                with[i] = number(last[i], wrong);
            }
            if (m.getName().equals("cut") && random.nextInt(2) == 0) {
                with[1] = SHAPES[random.nextInt(SHAPES.length)];
            }
            if (isTyping) {
                with[0] = (int) pending.charAt(0);
                pending.deleteCharAt(0);
            }
            String told = "run " + run + ", call " + call + ": " + m.getName() + Arrays.toString(with);
            Due.same(told, answer(prints, m, with), answer(model, twin(m), with));
            if (call % 16 == 0) {
                Due.same(told + ", digest behind it", prints.digest(), model.digest());
            }
        }
        Due.same("run " + run + ", digest", prints.digest(), model.digest());
        for (int what = 0; what < 3; what++) {
            Due.same("run " + run + ", status", prints.status(what), model.status(what));
        }
    }

    private Method draw(boolean mayBeginAnew, StringBuilder pending) {
        int drawn = random.nextInt(100);
        if (drawn < 2) {
            pending.append(someText());
            return named("clear");
        }
        if (drawn < 6) {
            return named("read");
        }
        if (drawn < 25) {
            return named("print");
        }
        if (drawn < 32) {
            return named("dip");
        }
        Method m = face[random.nextInt(face.length)];
        boolean isAnew = m.getName().equals("table") || m.getName().equals("clear") || m.getName().equals("cut");
        return isAnew && !mayBeginAnew && random.nextInt(4) > 0 ? named("print") : m;
    }

    private String someText() {
        StringBuilder s = new StringBuilder(random.nextInt(20) == 0 ? "" : "table " + random.nextInt(13) + ";");
        int items = random.nextInt(5);
        for (int i = 0; i < items; i++) {
            int[] last = random.nextBoolean() ? new int[] {1, 15, 15, 15, 15} : new int[] {5, 1, 7, 7, 3};
            s.append(last[1] == 15 ? "potato" : "print");
            for (int v : last) {
                s.append(random.nextInt(8) == 0 ? "  " : " ");
                s.append(random.nextInt(15) == 0 ? "0" : "").append(random.nextInt(v + 1));
            }
            s.append(";");
        }
        if (random.nextInt(3) == 0 && s.length() > 0) {
            String signs = " ;;0159abeltopnriAZ-\t{`/:";
            int at = random.nextInt(s.length());
            char c = signs.charAt(random.nextInt(signs.length()));
            switch (random.nextInt(3)) {
                case 0 -> s.setCharAt(at, c);
                case 1 -> s.insert(at, c);
                default -> s.setLength(at);
            }
        }
        return s.toString();
    }

    private int number(int last, int wrong) {
        if (random.nextInt(wrong) > 0) {
            return random.nextInt(last + 1);
        }
        int[] odd = {-1, last + 1, last, 0, Integer.MIN_VALUE, Integer.MAX_VALUE, random.nextInt()};
        return odd[random.nextInt(odd.length)];
    }

    private Method named(String name) {
        return Arrays.stream(face).filter(m -> m.getName().equals(name)).findFirst().orElseThrow();
    }

    private static Method twin(Method m) throws Exception {
        return SlowModel.class.getDeclaredMethod(m.getName(), m.getParameterTypes());
    }

    private static long answer(Object of, Method m, Object[] with) throws Exception {
        return ((Number) m.invoke(of, with)).longValue();
    }
}
