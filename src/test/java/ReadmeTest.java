import java.io.File;
import java.io.IOException;
import java.lang.reflect.Field;
import java.lang.reflect.Method;
import java.lang.reflect.Modifier;
import java.nio.file.Files;
import java.nio.file.Path;
import java.util.Arrays;
import java.util.regex.Matcher;
import java.util.regex.Pattern;

/** README.md: its example answers as its comments say, and it tells each call, each constant and each test. */
public final class ReadmeTest {
    private static final Due DUE = new Due("ReadmeTest");

    private ReadmeTest() {
    }

    public static void main(String[] args) throws IOException, IllegalAccessException {
        String page = Files.readString(Path.of("README.md"));
        example(page);
        calls(page);
        constants(page);
        tests(page);
        DUE.end();
    }

    private static void example(String page) {
        Calls stencil = new Calls(new EdgeStencil());
        Matcher text = Pattern.compile("\"([^\"]+)\"\\.toCharArray").matcher(page);
        DUE.holds("the example has a text", text.find());
        for (char letter : text.group(1).toCharArray()) {
            stencil.call(numberOf("write"), letter);
        }
        Matcher row = Pattern.compile("(?m)^e\\.(\\w+)\\(([^)]*)\\); +// (-?\\d+)(, ([A-Z]+))?: ").matcher(page);
        int rows = 0;
        while (row.find()) {
            rows++;
            int want = Integer.parseInt(row.group(3));
            int got = stencil.call(numberOf(row.group(1)), numbersOf(row.group(2)));
            DUE.is("the example's " + row.group().trim(), want, got);
            DUE.holds("the name in " + row.group().trim(),
                    want >= 0 || row.group(5) != null && page.contains(rowOf(row.group(5), want)));
        }
        int told = page.split("\ne\\.").length - 1;
        DUE.is("rows of the example that tell their answer", told, rows);
    }

    private static int numberOf(String call) {
        return Arrays.asList(Calls.NAMES).indexOf(call);
    }

    private static int[] numbersOf(String list) {
        return list.isEmpty() ? new int[0] : Arrays.stream(list.split(", ")).mapToInt(Integer::parseInt).toArray();
    }

    private static void calls(String page) {
        for (Method m : EdgeStencil.class.getMethods()) {
            if (m.getDeclaringClass() == EdgeStencil.class) {
                int commas = Math.max(m.getParameterCount() - 1, 0);
                String names = m.getParameterCount() == 0 ? "" : "[a-z]+(, [a-z]+){" + commas + "}";
                Pattern row = Pattern.compile("(?m)^\\| `" + m.getName() + "\\(" + names + "\\)` \\| .+ \\| .+ \\| .*\\|$");
                DUE.holds("a row of its own for " + m.getName(), row.matcher(page).find());
            }
        }
    }

    private static String rowOf(String constant, int value) {
        return "\n| `" + constant + "` | " + value + " | ";
    }

    private static void constants(String page) throws IllegalAccessException {
        for (Field f : EdgeStencil.class.getFields()) {
            if (Modifier.isStatic(f.getModifiers())) {
                DUE.holds("what " + f.getName() + " means", page.contains(rowOf(f.getName(), f.getInt(null))));
            }
        }
    }

    private static void tests(String page) {
        File[] files = new File("src/test/java").listFiles((folder, name) -> name.endsWith("Test.java"));
        DUE.holds("tests were found", files != null && files.length > 0);
        for (File file : files == null ? new File[0] : files) {
            String name = file.getName().replace(".java", "");
            DUE.holds("a row of its own for " + name, page.contains("\n| `" + name + "` | "));
        }
    }
}
