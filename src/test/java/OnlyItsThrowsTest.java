import java.lang.reflect.InvocationTargetException;
import java.lang.reflect.Method;
import java.lang.reflect.Modifier;
import java.util.ArrayList;
import java.util.Arrays;
import java.util.List;

/** A call throws nothing but what its line of the face names, whatever it is given, in whatever state. */
public final class OnlyItsThrowsTest {
    private static final int[] NUMBERS = {Integer.MIN_VALUE, Integer.MIN_VALUE + 1, -1000, -2, -1, 0, 1, 2, 3, 4, 5, 6, 7, 9, 10, 11, 12, 13, 19, 20,
        21, 30, 31, 32, 33, 59, 60, 61, 63, 64, 99, 100, 101, 119, 120, 121, 400, 401, 511, 512, 1023, 1024, 1 << 30, Integer.MAX_VALUE - 1,
        Integer.MAX_VALUE};
    private static final int MOST_CALLS = 512;
    private static final Checks c = new Checks();

    public static void main(String[] args) throws ReflectiveOperationException {
        List<String> texts = new ArrayList<>();
        texts.add(null);
        texts.add("");
        texts.add("person 0 0;");
        texts.add("person 9999 3;".repeat(6) + "fact 0 9 5 4 debt 5 0 999;".repeat(10) + "talk 0 1;talk 1 2;talk 2 3;talk 3 4;talk 4 5;price 0 0;keeps 99;");
        texts.add("person 50 0;person 40 0;fact 0 1 0;fact 1 2 1;fact 400 1 0;talk 1 0;keeps salt/(day-3)+8192*8192*32/(0-told);");
        for (String text : texts) {
            for (Method m : SaltMinds.class.getDeclaredMethods()) {
                if (Modifier.isPublic(m.getModifiers())) {
                    callWithAll(text, m);
                }
            }
        }
        c.end();
    }

    private static SaltMinds made(String text) {
        SaltMinds x = text == null ? new SaltMinds() : Checks.told(text);
        x.days(2);
        if (x.count(0) > 0) {
            x.grains(0, 3);
        }
        return x;
    }

    /** Each argument goes through all NUMBERS, the others being each of a few. */
    private static void callWithAll(String text, Method m) throws ReflectiveOperationException {
        SaltMinds x = made(text);
        int calls = 0;
        int[] few = {0, 1, -1, 5};
        for (int at = 0; at < Math.max(1, m.getParameterCount()); at++) {
            for (int n : NUMBERS) {
                for (int other : few) {
                    // salt() and its like take away what the next calls need.
                    if (calls++ > MOST_CALLS - 60 || m.getName().equals("salt")) {
                        x = made(text);
                        calls = 0;
                    }
                    callOne(x, m, at, n, other);
                }
            }
        }
    }

    private static void callOne(SaltMinds x, Method m, int at, int n, int other) throws ReflectiveOperationException {
        Object[] given = new Object[m.getParameterCount()];
        for (int i = 0; i < given.length; i++) {
            int number = i == at ? n : other;
            given[i] = m.getParameterTypes()[i] == boolean.class ? (Object) (number > 0) : (Object) number;
        }
        try {
            m.invoke(x, given);
        } catch (InvocationTargetException e) {
            boolean named = false;
            for (Class<?> type : m.getExceptionTypes()) {
                named |= type == e.getCause().getClass();
            }
            c.due(m.getName() + Arrays.toString(given) + " may throw " + e.getCause(), named, true);
        }
    }
}
