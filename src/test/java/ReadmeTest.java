import java.nio.file.Files;
import java.nio.file.Path;
import java.util.Arrays;
import java.util.List;
import java.util.regex.Matcher;
import java.util.regex.Pattern;

/** README.md shows calls with their answers, names every call of the face and every test of the project: all as it says. */
public final class ReadmeTest {
    private static final Pattern ANSWERED = Pattern.compile("p\\.(\\w+)\\(([^)]*)\\);\\s*// (-?\\d+).*");
    private static final Pattern TYPED = Pattern.compile("for \\(char c : \"(.*)\"\\.toCharArray\\(\\)\\) p\\.type\\(c\\);");
    private static final String MADE = "PotatoPrints p = new PotatoPrints();";

    public static void main(String[] args) throws Exception {
        String readme = Files.readString(Path.of("README.md"));
        examplesAnswerAsTold(readme.split("\n"));
        everyCallIsNamed(readme);
        everyTestIsNamed(readme);
        Due.end("ReadmeTest");
    }

    private static void examplesAnswerAsTold(String[] lines) {
        PotatoPrints p = null;
        boolean isJava = false;
        int answered = 0;
        for (String line : lines) {
            if (line.startsWith("```")) {
                isJava = line.equals("```java");
                p = null;
            } else if (isJava && line.equals(MADE)) {
                p = new PotatoPrints();
            } else if (isJava) {
                answered += example(p, line);
            }
        }
        Due.holds("there are examples", answered >= 20);
    }

    private static int example(PotatoPrints p, String line) {
        Matcher call = ANSWERED.matcher(line);
        Matcher text = TYPED.matcher(line);
        if (p != null && call.matches()) {
            Due.same("README: " + line, named(call.group(1)).on(p, numbers(call.group(2))), Long.parseLong(call.group(3)));
            return 1;
        }
        boolean isText = p != null && text.matches();
        Due.holds("README, an example that can be tried: " + line, isText);
        for (int i = 0; isText && i < text.group(1).length(); i++) {
            p.type(text.group(1).charAt(i));
        }
        return 0;
    }

    private static int[] numbers(String told) {
        return Arrays.stream(told.split(",")).map(String::strip).filter(n -> !n.isEmpty()).mapToInt(Integer::parseInt).toArray();
    }

    private static Call named(String name) {
        return Call.all().stream().filter(c -> c.name().equals(name)).findFirst().orElseThrow();
    }

    private static void everyCallIsNamed(String readme) {
        for (Call call : Call.all()) {
            Due.holds("README names " + call.name(), readme.contains("`" + call.name() + "`"));
        }
    }

    private static void everyTestIsNamed(String readme) throws Exception {
        List<Path> tests;
        try (var all = Files.list(Path.of("src/test/java"))) {
            tests = all.toList();
        }
        for (Path test : tests) {
            String name = test.getFileName().toString().replace(".java", "");
            Due.holds("README names " + name, readme.contains("`" + name + "`"));
        }
    }
}
