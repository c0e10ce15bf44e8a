import java.lang.reflect.Constructor;
import java.lang.reflect.Field;
import java.lang.reflect.Method;
import java.lang.reflect.Modifier;
import java.nio.file.Files;
import java.nio.file.Path;
import java.util.ArrayList;
import java.util.Collections;
import java.util.List;
import java.util.regex.Matcher;
import java.util.regex.Pattern;

/** The public face is the document's and no more; the source keeps to what LANGUAGE.md allows, as far as its words show. */
public final class FaceTest {
    private static final String FACE = """
            int table(int)
            int cut(int,int)
            int dip(int)
            int print(int,int,int,int,int)
            int undo()
            int type(int)
            int clear()
            int read()
            int dark(int,int)
            int looks(int,int)
            int alike(int)
            int adds(int,int,int,int,int)
            int force(int,int,int)
            int fromOne(int,int,int)
            int dips(int,int,int,int)
            int edge(int,int,int)
            int gap(int)
            int hit(int,int)
            int want(int,int)
            int cover(int,int)
            int shrinks(int,int)
            int gone(int)
            int seen(int,int,int)
            int forget(int)
            int which(int,int)
            int look(int)
            int bitten(int,int,int,int,int)
            int slips(int,int,int,int,int,int,int)
            int sheets(int,int)
            long part(int)
            int image(int)
            int from(int)
            int status(int)
            int count(int)
            long digest()
            """;

    public static void main(String[] args) throws Exception {
        methodsAreTheDocuments();
        fieldsAndConstructors();
        noOwnMethodBearsAPublicName();
        sourceKeepsToTheLanguage();
        Due.end("FaceTest");
    }

    private static String told(Method m) {
        StringBuilder s = new StringBuilder(m.getReturnType().getName()).append(' ').append(m.getName()).append('(');
        for (int i = 0; i < m.getParameterCount(); i++) {
            s.append(i == 0 ? "" : ",").append(m.getParameterTypes()[i].getName());
        }
        return s.append(')').toString();
    }

    private static void methodsAreTheDocuments() {
        List<String> want = new ArrayList<>(List.of(FACE.strip().split("\n")));
        List<String> got = new ArrayList<>();
        for (Method m : PotatoPrints.class.getDeclaredMethods()) {
            if (m.isSynthetic()) {
                continue;
            }
            if (Modifier.isPublic(m.getModifiers())) {
                got.add(told(m));
                Due.holds(m + " is of an object", !Modifier.isStatic(m.getModifiers()));
            } else {
                Due.holds(m + " is private", Modifier.isPrivate(m.getModifiers()));
            }
        }
        Collections.sort(want);
        Collections.sort(got);
        Due.holds("the methods " + got + " are " + want, got.equals(want));
    }

    private static void fieldsAndConstructors() {
        List<String> open = new ArrayList<>();
        for (Field f : PotatoPrints.class.getDeclaredFields()) {
            if (!Modifier.isPrivate(f.getModifiers())) {
                open.add(f.getName());
            }
        }
        Due.holds("the open fields " + open, open.equals(List.of("NONE", "BAD", "NO", "FULL")));
        Constructor<?>[] made = PotatoPrints.class.getDeclaredConstructors();
        Due.same("constructors", made.length, 1);
        Due.same("its parameters", made[0].getParameterCount(), 0);
        Due.holds("it is public", Modifier.isPublic(made[0].getModifiers()));
        Due.holds("the class is final", Modifier.isFinal(PotatoPrints.class.getModifiers()));
        for (Class<?> inside : PotatoPrints.class.getDeclaredClasses()) {
            Due.holds(inside + " is static", Modifier.isStatic(inside.getModifiers()));
            Due.holds(inside + " is not public", !Modifier.isPublic(inside.getModifiers()));
        }
    }

    private static void noOwnMethodBearsAPublicName() {
        List<String> open = new ArrayList<>();
        for (Method m : PotatoPrints.class.getDeclaredMethods()) {
            if (Modifier.isPublic(m.getModifiers())) {
                open.add(m.getName());
            }
        }
        for (Class<?> inside : PotatoPrints.class.getDeclaredClasses()) {
            for (Method m : inside.getDeclaredMethods()) {
                Due.holds(m + " has a name of its own", !open.contains(m.getName()));
                Due.holds(m + " takes seven at most", m.getParameterCount() <= 7);
            }
        }
    }

    private static void sourceKeepsToTheLanguage() throws Exception {
        String source = Files.readString(Path.of("src/main/java/PotatoPrints.java"));
        String code = source.replaceAll("(?s)/\\*.*?\\*/", " ").replaceAll("//[^\n]*", " ");
        String[] ruledOut = {"throw", "throws", "try", "catch", "finally", "synchronized", "assert", "package", "protected",
            "Exact", "Random", "currentTimeMillis", "nanoTime", "Object", "hashCode", "toString", "equals", "instanceof"};
        for (String word : ruledOut) {
            Due.holds("no " + word, !Pattern.compile("\\b" + word + "\\b").matcher(code).find());
        }
        Due.holds("no lambda", !code.contains("->"));
        Due.holds("no method reference", !code.contains("::"));
        Due.holds("signs 1 to 127", source.chars().allMatch(c -> c >= 1 && c <= 127));
        Matcher imports = Pattern.compile("import ([^;]+);").matcher(code);
        while (imports.find()) {
            Due.holds("import of " + imports.group(1), imports.group(1).equals("java.util.Arrays"));
        }
        for (Method m : PotatoPrints.class.getDeclaredMethods()) {
            Due.holds(m + " takes seven at most", m.getParameterCount() <= 7);
        }
    }
}
