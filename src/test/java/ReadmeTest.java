import java.io.IOException;
import java.lang.reflect.InvocationTargetException;
import java.lang.reflect.Method;
import java.nio.file.Files;
import java.nio.file.Path;
import java.util.TreeSet;
import java.util.regex.Matcher;
import java.util.regex.Pattern;

/** What README.md shows is what the class answers: its lines 'x.call(..); // answer: ..' are played in their order. */
public final class ReadmeTest {
    private static final Pattern LINE = Pattern.compile("x\\.(\\w+)\\((.*?)\\); +// (throws \\w+|-?\\d+|true|false|\\w+).*");
    private static final Checks c = new Checks();

    public static void main(String[] args) throws IOException, ReflectiveOperationException {
        SaltMinds x = new SaltMinds();
        StringBuilder bytes = new StringBuilder();
        StringBuilder quoted = new StringBuilder();
        TreeSet<String> shown = new TreeSet<>();
        for (String line : Files.readAllLines(Path.of("README.md"))) {
            if (!line.startsWith("x.")) {
                continue;
            }
            Matcher m = LINE.matcher(line);
            if (!m.matches()) {
                c.due("the line can be read: " + line, false, true);
                continue;
            }
            shown.add(m.group(1));
            play(x, line, m);
            if (m.group(1).equals("feed")) {
                bytes.append(textOf(m.group(2)));
                quoted.append(line, line.indexOf('"') + 1, line.lastIndexOf('"'));
            }
        }
        c.same("the text that is fed", bytes.toString(), quoted.toString());
        c.due("calls of the face that README.md shows", shown.size(), 38);
        c.end();
    }

    private static void play(SaltMinds x, String line, Matcher m) throws ReflectiveOperationException {
        Method call = named(m.group(1));
        String[] given = m.group(2).isEmpty() ? new String[0] : m.group(2).split(", ");
        Object[] numbers = new Object[given.length];
        for (int i = 0; i < given.length; i++) {
            numbers[i] = call.getParameterTypes()[i] == boolean.class ? (Object) Boolean.valueOf(given[i]) : (Object) Integer.decode(given[i]);
        }
        String answer;
        try {
            answer = String.valueOf(call.invoke(x, numbers));
        } catch (InvocationTargetException e) {
            answer = "throws " + e.getCause().getClass().getSimpleName();
        }
        if (call.getReturnType() != void.class) {
            c.same(line, answer, m.group(3));
        }
    }

    private static Method named(String name) {
        for (Method m : SaltMinds.class.getMethods()) {
            if (m.getName().equals(name) && m.getDeclaringClass() == SaltMinds.class) {
                return m;
            }
        }
        throw new IllegalStateException("README.md shows a call that there isn't: " + name);
    }

    private static String textOf(String numbers) {
        StringBuilder b = new StringBuilder();
        for (String number : numbers.split(", ")) {
            for (int shift = 24; shift >= 0; shift -= 8) {
                b.append((char) (Integer.decode(number) >> shift & 255));
            }
        }
        return b.toString();
    }
}
