import java.io.IOException;
import java.lang.reflect.Field;
import java.lang.reflect.Method;
import java.lang.reflect.Modifier;
import java.nio.file.Files;
import java.nio.file.Path;
import java.util.ArrayList;
import java.util.List;
import java.util.regex.Matcher;
import java.util.regex.Pattern;

/**
 * Some rules of LANGUAGE.md that can be looked up in the class or in its text, so that no later change leaves them unseen.
 * It is stricter than they are where the class needs less (no catch, two imports, few functions): such lists may grow.
 */
public final class LanguageTest {
    private static final Checks c = new Checks();
    /** What rules 2, 6, 10 and 13 leave out, and what rule 4 leaves out of the library. */
    private static final String[] NEVER = {"->", "::", "\\bfinally\\b", "\\bsynchronized\\b", "\\bassert\\b", "\\bprotected\\b", "\\bstatic \\{",
        "\\bcatch\\b", "\\bgetMessage\\b", "Exact\\(", "\\bThread\\b", "\\bRandom\\b", "\\bnanoTime\\b", "\\bcurrentTimeMillis\\b", "\\bhashCode\\b",
        "\\btoString\\b", "\\bvar\\b", "\\[\\]\\[\\]\\["};
    private static final Pattern LIBRARY = Pattern.compile("\\b(Arrays|System|Math|Integer|Long)\\.(\\w+)");
    private static final List<String> ALLOWED = List.of("Arrays.fill", "Arrays.copyOf", "Arrays.copyOfRange", "System.arraycopy", "Math.max",
        "Math.min", "Math.abs", "Math.floorDiv", "Math.floorMod", "Integer.bitCount", "Integer.compare", "Integer.numberOfTrailingZeros");
    private static final Pattern THROWN = Pattern.compile("\\bthrow\\b(?! new (IllegalArgumentException|NoSuchElementException)\\((\"[^\"]*\")?\\);)");

    public static void main(String[] args) throws IOException {
        String text = Files.readString(Path.of("src/main/java/SaltMinds.java"));
        String code = text.replaceAll("(?s)/\\*.*?\\*/", "").replaceAll("//[^\n]*", "");
        lookForWords(code);
        lookAtLengths(code);
        List<Class<?>> classes = new ArrayList<>(List.of(SaltMinds.class.getDeclaredClasses()));
        classes.add(SaltMinds.class);
        c.about("Rule 11");
        c.due("more than twelve classes", classes.size() > 12, false);
        for (Class<?> one : classes) {
            lookAtClass(one);
        }
        c.end();
    }

    private static void lookForWords(String code) {
        c.about("Rules 2, 4, 6, 10, 13");
        for (String never : NEVER) {
            c.due("the class has " + never, Pattern.compile(never).matcher(code).find(), false);
        }
        for (String line : code.split("\n")) {
            if (line.startsWith("import ")) {
                c.due(line, line.equals("import java.util.Arrays;") || line.equals("import java.util.NoSuchElementException;"), true);
            }
        }
        Matcher used = LIBRARY.matcher(code);
        while (used.find()) {
            c.due(used.group() + " is in the library that is left", ALLOWED.contains(used.group()), true);
        }
        c.due("a throw that isn't as rule 6 and the document want it", THROWN.matcher(code).find(), false);
        c.due("all signs are 1 to 127", code.chars().allMatch(sign -> sign >= 1 && sign <= 127), true);
    }

    /** A method's first and last line stand at the same depth, as the class is written. */
    private static void lookAtLengths(String code) {
        c.about("Rule 11");
        Matcher method = Pattern.compile("(?ms)^((?:    ){1,2})(?! )[^\n;=]*\\)[^\n;=]*\\{$.*?^\\1\\}$").matcher(code);
        int methods = 0;
        while (method.find()) {
            methods++;
            long lines = method.group().lines().count();
            c.due("a method of " + lines + " lines: " + method.group().lines().findFirst().orElse(""), lines > 60, false);
        }
        c.due("methods were found", methods > 100, true);
    }

    private static void lookAtClass(Class<?> one) {
        c.about("Rules 5, 11");
        int own = 0;
        for (Field f : one.getDeclaredFields()) {
            boolean still = Modifier.isStatic(f.getModifiers());
            own += still ? 0 : 1;
            c.due(one.getName() + "." + f.getName() + " is static and may change", still && !Modifier.isFinal(f.getModifiers()), false);
        }
        c.due(one.getName() + " has more than twenty fields", own > 20, false);
        for (Method m : one.getDeclaredMethods()) {
            c.due(one.getName() + "." + m.getName() + " takes more than seven", m.getParameterCount() > 7, false);
        }
    }
}
