import java.lang.reflect.Constructor;
import java.lang.reflect.Field;
import java.lang.reflect.Method;
import java.lang.reflect.Modifier;
import java.util.Arrays;
import java.util.TreeSet;

/** The public face is the document's, and nothing more. */
public final class FaceTest {
    private static final String[] FACE = {
        "int feed(int,int,int,int,int)",
        "int salt(int) throws IllegalArgumentException",
        "int fault()",
        "int count(int) throws NoSuchElementException",
        "int person(int,int) throws NoSuchElementException",
        "int fact(int,int) throws NoSuchElementException",
        "int until(int,int) throws NoSuchElementException",
        "int grains(int,int) throws NoSuchElementException",
        "int sit(int,int) throws NoSuchElementException",
        "boolean tell(int,int,int) throws NoSuchElementException",
        "int days(int)",
        "int undo()",
        "int ahead(int,int) throws NoSuchElementException,IllegalArgumentException",
        "int blank(int,int) throws NoSuchElementException,IllegalArgumentException",
        "int enough(int,int,int) throws NoSuchElementException,IllegalArgumentException",
        "int cheapest(int,int,int) throws NoSuchElementException,IllegalArgumentException",
        "int row(int) throws NoSuchElementException",
        "int witnesses(int,int,int) throws IllegalArgumentException",
        "int rations(int,int) throws IllegalArgumentException",
        "int ration(int) throws NoSuchElementException",
        "int steps(int,int) throws NoSuchElementException",
        "int teller(int) throws NoSuchElementException",
        "int gathering(int) throws NoSuchElementException",
        "boolean holds(int) throws NoSuchElementException",
        "int owed(int) throws NoSuchElementException",
        "int profits(int) throws IllegalArgumentException",
        "int see(int,int,boolean) throws NoSuchElementException",
        "void forget()",
        "int ate(int,int) throws NoSuchElementException",
        "int blamed()",
        "int merchants(int) throws NoSuchElementException",
        "int corner(int) throws IllegalArgumentException",
        "int season(int,int,int) throws NoSuchElementException,IllegalArgumentException",
        "int feast(int) throws IllegalArgumentException",
        "int sick(int,int) throws NoSuchElementException,IllegalArgumentException",
        "int spent(int) throws IllegalArgumentException",
        "void image()",
        "boolean restore()",
    };

    private static String signature(Method m) {
        StringBuilder b = new StringBuilder(m.getReturnType().getName()).append(' ').append(m.getName()).append('(');
        for (int i = 0; i < m.getParameterCount(); i++) {
            b.append(i == 0 ? "" : ",").append(m.getParameterTypes()[i].getName());
        }
        b.append(')');
        for (int i = 0; i < m.getExceptionTypes().length; i++) {
            b.append(i == 0 ? " throws " : ",").append(m.getExceptionTypes()[i].getSimpleName());
        }
        return b.toString();
    }

    public static void main(String[] args) {
        Checks c = new Checks();
        TreeSet<String> face = new TreeSet<>();
        TreeSet<String> publicNames = new TreeSet<>();
        for (Method m : SaltMinds.class.getDeclaredMethods()) {
            if (!Modifier.isPrivate(m.getModifiers())) {
                face.add(signature(m));
                publicNames.add(m.getName());
            }
        }
        c.due("the methods are the document's: " + face, face.equals(new TreeSet<>(Arrays.asList(FACE))), true);
        for (Class<?> inside : SaltMinds.class.getDeclaredClasses()) {
            c.due(inside.getName() + " is static", Modifier.isStatic(inside.getModifiers()), true);
            c.due(inside.getName() + " is not public", Modifier.isPublic(inside.getModifiers()), false);
            for (Method m : inside.getDeclaredMethods()) {
                c.due(inside.getName() + "." + m.getName() + " bears a public name", publicNames.contains(m.getName()), false);
            }
        }
        for (Method m : SaltMinds.class.getDeclaredMethods()) {
            if (Modifier.isPrivate(m.getModifiers())) {
                c.due(m.getName() + " bears a public name", publicNames.contains(m.getName()), false);
            }
        }
        for (Field f : SaltMinds.class.getDeclaredFields()) {
            c.due(f.getName() + " is to be seen", !Modifier.isPrivate(f.getModifiers()), f.getName().equals("NONE"));
        }
        Constructor<?>[] made = SaltMinds.class.getDeclaredConstructors();
        c.due("constructors", made.length, 1);
        c.due("the constructor is public", Modifier.isPublic(made[0].getModifiers()), true);
        c.due("the class is final", Modifier.isFinal(SaltMinds.class.getModifiers()), true);
        c.due("NONE", SaltMinds.NONE, -1);
        c.end();
    }
}
