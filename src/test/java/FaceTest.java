import java.lang.reflect.Constructor;
import java.lang.reflect.Field;
import java.lang.reflect.Method;
import java.lang.reflect.Modifier;
import java.nio.file.Files;
import java.nio.file.Path;
import java.util.ArrayList;
import java.util.Collections;
import java.util.List;
import java.util.regex.Matcher;
import java.util.regex.Pattern;

/** The public face is the document's and no more; the source keeps to what LANGUAGE.md allows, as far as its words show. */
public final class FaceTest {
    private static final String FACE = """
            int table(int)
            int cut(int,int)
            int dip(int)
            int print(int,int,int,int,int)
            int undo()
            int type(int)
            int clear()
            int read()
            int dark(int,int)
            int looks(int,int)
            int alike(int)
            int adds(int,int,int,int,int)
            int force(int,int,int)
            int fromOne(int,int,int)
            int dips(int,int,int,int)
            int edge(int,int,int)
            int gap(int)
            int hit(int,int)
            int want(int,int)
            int cover(int,int)
            int shrinks(int,int)
            int gone(int)
            int seen(int,int,int)
            int forget(int)
            int which(int,int)
            int look(int)
            int bitten(int,int,int,int,int)
            int slips(int,int,int,int,int,int,int)
            int sheets(int,int)
            long part(int)
            int image(int)
            int from(int)
            int status(int)
            int count(int)
            long digest()
            """;

    public static void main(String[] args) throws Exception {
        methodsAreTheDocuments();
        fieldsAndConstructors();
        noOwnMethodBearsAPublicName();
        classesKeepToTheLanguage();
        sourceKeepsToTheLanguage();
        libraryIsWhatIsListed();
        methodsStayShort();
        objectsAreMadeOnce();
        Due.end("FaceTest");
    }

    private static String told(Method m) {
        StringBuilder s = new StringBuilder(m.getReturnType().getName()).append(' ').append(m.getName()).append('(');
        for (int i = 0; i < m.getParameterCount(); i++) {
            s.append(i == 0 ? "" : ",").append(m.getParameterTypes()[i].getName());
        }
        return s.append(')').toString();
    }

    private static void methodsAreTheDocuments() {
        List<String> want = new ArrayList<>(List.of(FACE.strip().split("\n")));
        List<String> got = new ArrayList<>();
        for (Method m : PotatoPrints.class.getDeclaredMethods()) {
            if (m.isSynthetic()) {
                continue;
            }
            if (Modifier.isPublic(m.getModifiers())) {
                got.add(told(m));
                Due.holds(m + " is of an object", !Modifier.isStatic(m.getModifiers()));
            } else {
                Due.holds(m + " is private", Modifier.isPrivate(m.getModifiers()));
            }
        }
        Collections.sort(want);
        Collections.sort(got);
        Due.holds("the methods " + got + " are " + want, got.equals(want));
    }

    private static void fieldsAndConstructors() {
        List<String> open = new ArrayList<>();
        for (Field f : PotatoPrints.class.getDeclaredFields()) {
            if (!Modifier.isPrivate(f.getModifiers())) {
                open.add(f.getName());
            }
        }
        Due.holds("the open fields " + open, open.equals(List.of("NONE", "BAD", "NO", "FULL")));
        Constructor<?>[] made = PotatoPrints.class.getDeclaredConstructors();
        Due.same("constructors", made.length, 1);
        Due.same("its parameters", made[0].getParameterCount(), 0);
        Due.holds("it is public", Modifier.isPublic(made[0].getModifiers()));
        Due.holds("the class is final", Modifier.isFinal(PotatoPrints.class.getModifiers()));
        for (Class<?> inside : PotatoPrints.class.getDeclaredClasses()) {
            Due.holds(inside + " is static", Modifier.isStatic(inside.getModifiers()));
            Due.holds(inside + " is not public", !Modifier.isPublic(inside.getModifiers()));
        }
    }

    private static List<Class<?>> allClasses() {
        List<Class<?>> all = new ArrayList<>(List.of(PotatoPrints.class.getDeclaredClasses()));
        all.add(PotatoPrints.class);
        return all;
    }

    // Rule 1, and rule 11's parameters.
    private static void noOwnMethodBearsAPublicName() {
        List<String> open = new ArrayList<>();
        for (Method m : PotatoPrints.class.getDeclaredMethods()) {
            if (Modifier.isPublic(m.getModifiers())) {
                open.add(m.getName());
            }
        }
        for (Class<?> one : allClasses()) {
            for (Method m : one.getDeclaredMethods()) {
                boolean isOfTheFace = one == PotatoPrints.class && Modifier.isPublic(m.getModifiers());
                Due.holds(m + " has a name of its own", isOfTheFace || !open.contains(m.getName()));
                Due.holds(m + " takes seven at most", m.getParameterCount() <= 7);
            }
        }
    }

    // Rule 5: no static state; rule 11: some twelve classes, some twenty fields beside constants.
    private static void classesKeepToTheLanguage() {
        List<Class<?>> constants = List.of(int.class, long.class, boolean.class, char.class, String.class,
                int[].class, long[].class, char[].class, byte[].class);
        Due.holds("twelve classes at most", allClasses().size() <= 12);
        for (Class<?> one : allClasses()) {
            int fields = 0;
            for (Field f : one.getDeclaredFields()) {
                if (Modifier.isStatic(f.getModifiers())) {
                    Due.holds(f + " is a constant", Modifier.isFinal(f.getModifiers()) && constants.contains(f.getType()));
                } else {
                    fields++;
                }
            }
            Due.holds(one + " has twenty fields at most", fields <= 20);
        }
    }

    private static String code() throws Exception {
        String source = Files.readString(Path.of("src/main/java/PotatoPrints.java"));
        return source.replaceAll("(?s)/\\*.*?\\*/", " ").replaceAll("//[^\n]*", " ");
    }

    // Rule 4, of what the class uses: of Math, Long and Integer only what is over int and long, of Arrays only three.
    private static void libraryIsWhatIsListed() throws Exception {
        List<String> listed = List.of("Math.min", "Math.max", "Math.abs", "Math.floorDiv", "Math.floorMod", "Long.bitCount",
                "Long.compare", "Long.numberOfTrailingZeros", "Integer.bitCount", "Integer.compare", "System.arraycopy",
                "Arrays.copyOf", "Arrays.copyOfRange", "Arrays.fill");
        Matcher used = Pattern.compile("\\b(Math|Long|Integer|System|Arrays|String|Character)\\.\\w+").matcher(code());
        while (used.find()) {
            Due.holds(used.group() + " is listed", listed.contains(used.group()));
        }
    }

    // Rule 11: "Methods stay short (some sixty lines)". A method ends where a brace stands as deep as it begins.
    private static void methodsStayShort() throws Exception {
        String[] lines = Files.readString(Path.of("src/main/java/PotatoPrints.java")).split("\n");
        int methods = 0;
        for (int at = 0; at < lines.length; at++) {
            Matcher head = Pattern.compile("( +)(public|private) [^=;]*\\w+\\(.*").matcher(lines[at]);
            if (head.matches()) {
                int end = at;
                while (end < lines.length && !lines[end].equals(head.group(1) + "}")) {
                    end++;
                }
                Due.holds(lines[at].strip() + " has sixty lines at most", end - at < 60);
                methods++;
            }
        }
        Due.holds("the methods are found", methods >= 36);
    }

    // The room that all calls live in: objects are made with the object itself, and by image, which then keeps them.
    private static void objectsAreMadeOnce() throws Exception {
        for (String line : code().split("\n")) {
            boolean isField = line.strip().startsWith("private final ");
            boolean isImage = line.strip().equals("kept = new Table();");
            Due.holds("made where? " + line.strip(), !line.matches(".*\\bnew\\b.*") || isField || isImage);
        }
    }

    private static void sourceKeepsToTheLanguage() throws Exception {
        String source = Files.readString(Path.of("src/main/java/PotatoPrints.java"));
        String code = code();
        String[] ruledOut = {"throw", "throws", "try", "catch", "finally", "synchronized", "assert", "package", "protected",
            "\\w*Exact", "Random", "currentTimeMillis", "nanoTime", "Object", "hashCode", "toString", "equals", "instanceof"};
        for (String word : ruledOut) {
            Due.holds("no " + word, !Pattern.compile("\\b" + word + "\\b").matcher(code).find());
        }
        Due.holds("no lambda", !code.contains("->"));
        Due.holds("no method reference", !code.contains("::"));
        Due.holds("signs 1 to 127", source.chars().allMatch(c -> c >= 1 && c <= 127));
        Matcher imports = Pattern.compile("import ([^;]+);").matcher(code);
        while (imports.find()) {
            Due.holds("import of " + imports.group(1), imports.group(1).equals("java.util.Arrays"));
        }
    }
}
