import java.lang.reflect.Constructor;
import java.lang.reflect.Field;
import java.lang.reflect.Method;
import java.lang.reflect.Modifier;
import java.util.Arrays;
import java.util.TreeSet;

/** The public face is the document's, and nothing more. */
public final class FaceTest {
    private static final String[] FACE = {
        "int feed(int,int,int,int,int)", "int salt(int)", "int fault()", "int count(int)", "int person(int,int)",
        "int fact(int,int)", "int until(int,int)", "int grains(int,int)", "int sit(int,int)", "boolean tell(int,int,int)",
        "int days(int)", "int undo()", "int ahead(int,int)", "int blank(int,int)", "int enough(int,int,int)",
        "int cheapest(int,int,int)", "int row(int)", "int witnesses(int,int,int)", "int rations(int,int)", "int ration(int)",
        "int steps(int,int)", "int teller(int)", "int gathering(int)", "boolean holds(int)", "int owed(int)",
        "int profits(int)", "int see(int,int,boolean)", "void forget()", "int ate(int,int)", "int blamed()",
        "int merchants(int)", "int corner(int)", "int season(int,int,int)", "int feast(int)", "int sick(int,int)",
        "int spent(int)", "void image()", "boolean restore()",
    };

    private static String signature(Method m) {
        StringBuilder b = new StringBuilder(m.getReturnType().getName()).append(' ').append(m.getName()).append('(');
        for (int i = 0; i < m.getParameterCount(); i++) {
            b.append(i == 0 ? "" : ",").append(m.getParameterTypes()[i].getName());
        }
        return b.append(')').toString();
    }

    public static void main(String[] args) {
        Checks c = new Checks();
        TreeSet<String> face = new TreeSet<>();
        TreeSet<String> publicNames = new TreeSet<>();
        for (Method m : SaltMinds.class.getDeclaredMethods()) {
            if (!Modifier.isPrivate(m.getModifiers())) {
                face.add(signature(m));
                publicNames.add(m.getName());
            }
        }
        c.due("the methods are the document's: " + face, face.equals(new TreeSet<>(Arrays.asList(FACE))), true);
        for (Class<?> inside : SaltMinds.class.getDeclaredClasses()) {
            c.due(inside.getName() + " is static", Modifier.isStatic(inside.getModifiers()), true);
            c.due(inside.getName() + " is not public", Modifier.isPublic(inside.getModifiers()), false);
            for (Method m : inside.getDeclaredMethods()) {
                c.due(inside.getName() + "." + m.getName() + " bears a public name", publicNames.contains(m.getName()), false);
            }
        }
        for (Method m : SaltMinds.class.getDeclaredMethods()) {
            if (Modifier.isPrivate(m.getModifiers())) {
                c.due(m.getName() + " bears a public name", publicNames.contains(m.getName()), false);
            }
        }
        for (Field f : SaltMinds.class.getDeclaredFields()) {
            c.due(f.getName() + " is to be seen", !Modifier.isPrivate(f.getModifiers()), f.getName().equals("NONE"));
        }
        Constructor<?>[] made = SaltMinds.class.getDeclaredConstructors();
        c.due("constructors", made.length, 1);
        c.due("the constructor is public", Modifier.isPublic(made[0].getModifiers()), true);
        c.due("the class is final", Modifier.isFinal(SaltMinds.class.getModifiers()), true);
        c.due("NONE", SaltMinds.NONE, -1);
        c.end();
    }
}
