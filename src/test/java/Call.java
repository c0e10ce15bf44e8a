import java.lang.reflect.Method;
import java.util.ArrayList;
import java.util.Arrays;
import java.util.List;

/** A call of the document's face: its name, and for each number it takes the least and the most that are as told. */
record Call(String name, int[] least, int[] most) {
    private static final String TOLD = """
            table 0..12
            cut 0..1 0..65535
            dip 0..12
            print 0..5 0..1 0..7 0..7 0..3
            undo
            type 0..127
            clear
            read
            dark 0..7 0..7
            looks 0..1 0..3
            alike 0..1
            adds 0..5 0..1 0..7 0..7 0..3
            force 0..5 0..12 0..1
            fromOne 0..5 0..12 1..9
            dips 0..5 0..12 1..9 0..60
            edge 4..99 0..9 0..1
            gap 4..99
            hit 0..1 0..1
            want 0..7 0..7
            cover 0..1 0..1
            shrinks 0..1 0..4
            gone 0..1
            seen 0..7 0..7 0..1
            forget 0..1
            which 0..1 0..1
            look 0..1
            bitten 0..1 0..7 0..7 0..3 0..1
            slips 0..5 0..1 0..7 0..7 0..5 0..10 0..63
            sheets 0..999999 0..30
            part 0..1
            image 0..1
            from 0..1
            status 0..2
            count 0..5
            digest
            """;

    static List<Call> all() {
        List<Call> all = new ArrayList<>();
        for (String line : TOLD.strip().split("\n")) {
            String[] words = line.split(" ");
            int[] least = new int[words.length - 1];
            int[] most = new int[words.length - 1];
            for (int i = 1; i < words.length; i++) {
                String[] ends = words[i].split("\\.\\.");
                least[i - 1] = Integer.parseInt(ends[0]);
                most[i - 1] = Integer.parseInt(ends[1]);
            }
            all.add(new Call(words[0], least, most));
        }
        return all;
    }

    int takes() {
        return least.length;
    }

    /** What answers where a number is not as told: BAD, but for the three that have an answer of their own. */
    int refusal() {
        return switch (name) {
            case "cover", "which" -> -10;
            case "status" -> -1;
            default -> PotatoPrints.BAD;
        };
    }

    /** Makes the call on an object that has a method of this name: the class, or a model of it. */
    long on(Object made, int... numbers) {
        try {
            Class<?>[] types = new Class<?>[takes()];
            Arrays.fill(types, int.class);
            Method method = made.getClass().getDeclaredMethod(name, types);
            return ((Number) method.invoke(made, Arrays.stream(numbers).boxed().toArray())).longValue();
        } catch (ReflectiveOperationException e) {
            throw new IllegalStateException(with(numbers), e);
        }
    }

    String with(int... numbers) {
        String told = Arrays.toString(numbers);
        return name + "(" + told.substring(1, told.length() - 1) + ")";
    }
}
