import java.io.IOException;
import java.lang.reflect.Constructor;
import java.lang.reflect.Field;
import java.lang.reflect.Method;
import java.lang.reflect.Modifier;
import java.nio.file.Files;
import java.nio.file.Path;
import java.util.ArrayList;
import java.util.Arrays;
import java.util.List;
import java.util.Set;
import java.util.TreeSet;
import java.util.regex.Matcher;
import java.util.regex.Pattern;

/** The document's face, and those rules of LANGUAGE.md that can be seen from the class and its text. */
public final class LanguageTest {
    private static final Due DUE = new Due("LanguageTest");
    private static final Set<String> FACE = new TreeSet<>(List.of("write 1", "wipe 0", "fault 0", "lay 0", "edge 3",
            "dot 2", "drop 1", "measure 2", "undo 0", "cell 2", "far 2", "nearest 2", "rings 1", "turn 3", "lies 2",
            "pose 3", "fits 0", "bound 3", "tells 3", "best 2", "spread 3", "take 2", "takes 2", "ledger 2",
            "count 1"));
    private static final List<String> CONSTANTS = List.of("BAD", "NO", "FULL", "NONE");

    private LanguageTest() {
    }

    public static void main(String[] args) throws IOException {
        face();
        List<Class<?>> classes = new ArrayList<>(List.of(EdgeStencil.class));
        classes.addAll(Arrays.asList(EdgeStencil.class.getDeclaredClasses()));
        DUE.holds("at most twelve classes", classes.size() <= 12);
        for (Class<?> one : classes) {
            members(one);
        }
        String text = Files.readString(Path.of("src/main/java/EdgeStencil.java"));
        String code = bare(text);
        words(code);
        library(code);
        methodLengths(code);
        DUE.end();
    }

    private static void face() {
        Set<String> found = new TreeSet<>();
        for (Method m : EdgeStencil.class.getDeclaredMethods()) {
            if (!Modifier.isPrivate(m.getModifiers())) {
                found.add(m.getName() + " " + m.getParameterCount());
                boolean ints = Arrays.stream(m.getParameterTypes()).allMatch(t -> t == int.class);
                DUE.holds(m + " is public, of the object, over int", ints && m.getReturnType() == int.class
                        && m.getModifiers() == Modifier.PUBLIC);
            }
        }
        DUE.holds("the methods of the face " + found, found.equals(FACE));
        Constructor<?>[] constructors = EdgeStencil.class.getDeclaredConstructors();
        DUE.holds("one public constructor without numbers", constructors.length == 1
                && constructors[0].getParameterCount() == 0 && constructors[0].getModifiers() == Modifier.PUBLIC);
        for (Field f : EdgeStencil.class.getDeclaredFields()) {
            boolean constant = CONSTANTS.contains(f.getName()) && Modifier.isPublic(f.getModifiers());
            DUE.holds(f + " is private or a constant of the face", constant || Modifier.isPrivate(f.getModifiers()));
        }
        DUE.holds("public and final", EdgeStencil.class.getModifiers() == (Modifier.PUBLIC | Modifier.FINAL));
        DUE.is("BAD", -1, EdgeStencil.BAD);
        DUE.is("NO", -2, EdgeStencil.NO);
        DUE.is("FULL", -3, EdgeStencil.FULL);
        DUE.is("NONE", -4, EdgeStencil.NONE);
    }

    private static void members(Class<?> one) {
        boolean outer = one == EdgeStencil.class;
        DUE.holds(one + " is static and not public", outer || Modifier.isStatic(one.getModifiers())
                && !Modifier.isPublic(one.getModifiers()) && !Modifier.isProtected(one.getModifiers()));
        DUE.is(one + " has no classes inside", 0, outer ? 0 : one.getDeclaredClasses().length);
        int fields = 0;
        for (Field f : one.getDeclaredFields()) {
            boolean isStatic = Modifier.isStatic(f.getModifiers());
            fields += isStatic ? 0 : 1;
            DUE.holds(f + " is final if static", !isStatic || Modifier.isFinal(f.getModifiers()));
        }
        DUE.holds(one + " has at most twenty fields", fields <= 20);
        for (Method m : one.getDeclaredMethods()) {
            boolean ofFace = FACE.stream().anyMatch(f -> f.startsWith(m.getName() + " "));
            DUE.holds(m + " has no name of the face", !ofFace || outer && Modifier.isPublic(m.getModifiers()));
            DUE.holds(m + " takes at most seven", m.getParameterCount() <= 7);
        }
    }

    // The text without comments and without what stands in quotes, line by line where it was.
    private static String bare(String text) {
        Matcher quoted = Pattern.compile("/\\*.*?\\*/|//[^\n]*|\"[^\"]*\"|'[^']'", Pattern.DOTALL).matcher(text);
        return quoted.replaceAll(found -> switch (found.group().charAt(0)) {
            case '/' -> found.group().replaceAll("[^\n]", "");
            case '"' -> "\"\"";
            default -> "0";
        });
    }

    private static void words(String code) {
        String[] banned = {"\\bthrow\\b", "\\bthrows\\b", "\\btry\\b", "\\bcatch\\b", "\\bfinally\\b",
            "\\bsynchronized\\b", "\\bassert\\b", "->", "::", "Exact\\b", "\\bimport\\b", "\\bpackage\\b",
            "\\bstatic\\s*\\{", "\"\\s*\\+", "\\+\\s*\"", "while\\s*\\(true\\)", "for\\s*\\(;;",
            "\\bSystem\\.(?!arraycopy)", "\\bprotected\\b", "\\bequals\\b", "\\bhashCode\\b", "\\btoString\\b",
            "\\bObject\\b", "\\bvar\\b", "\\bnative\\b", "\\bvolatile\\b", "\\[\\]\\[\\]\\["};
        for (String word : banned) {
            DUE.holds("the text is without " + word, !Pattern.compile(word).matcher(code).find());
        }
    }

    // Of the library's classes the functions that rule 4 names, no constants.
    private static void library(String code) {
        Set<String> allowed = Set.of("Math.min", "Math.max", "Math.abs", "Math.floorDiv", "Math.floorMod",
                "Integer.bitCount", "Integer.compare", "System.arraycopy", "Arrays.fill", "Arrays.copyOf");
        Matcher used = Pattern.compile("\\b(Math|Integer|Long|Arrays|System|String|Character)\\.\\w+").matcher(code);
        while (used.find()) {
            DUE.holds("the library has " + used.group(), allowed.contains(used.group()));
        }
    }

    private static void methodLengths(String code) {
        String[] lines = code.split("\n", -1);
        Pattern head = Pattern.compile("^( {4}| {8})(?!private static final|return|if|for|while|switch)\\S.*\\) \\{$");
        int methods = 0;
        for (int i = 0; i < lines.length; i++) {
            Matcher m = head.matcher(lines[i]);
            if (m.find()) {
                int end = i;
                while (end < lines.length && !lines[end].equals(m.group(1) + "}")) {
                    end++;
                }
                methods++;
                DUE.holds("at most sixty lines: " + lines[i].trim(), end - i + 1 <= 60);
            }
        }
        DUE.holds("methods were found", methods > 50);
    }
}
