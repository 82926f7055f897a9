import java.lang.reflect.Constructor;
import java.lang.reflect.Field;
import java.lang.reflect.Method;
import java.lang.reflect.Modifier;
import java.util.Arrays;
import java.util.Set;
import java.util.TreeSet;

/** The public face of the document, with nothing visible beside it. */
public final class FaceTest {
    private static final String[] METHODS = {
        "boolean step(int,int,int,long)", "boolean asks(int,int,int)", "boolean throwsAt(int,int)",
        "boolean safe(int,long)", "boolean bar(int,int)", "int play(long,int)",
        "long output(int,int)", "int owner(int,int)", "int state(int)", "boolean restart(int)",
        "int held(int)", "int log(int,int)", "int count(int)", "int close()"};

    public static void main(String[] args) {
        Class<?> face = UnitThreads.class;
        Due.yes("public", Modifier.isPublic(face.getModifiers()));
        Due.yes("final", Modifier.isFinal(face.getModifiers()));
        Due.is("NONE", UnitThreads.NONE, -1);
        Due.yes("methods " + visibleMethods(face),
                visibleMethods(face).equals(new TreeSet<>(Arrays.asList(METHODS))));
        constructors(face);
        fields(face);
        privateNames(face);
        for (Class<?> inside : face.getDeclaredClasses()) {
            Due.yes("static " + inside, Modifier.isStatic(inside.getModifiers()));
            Due.no("public " + inside, Modifier.isPublic(inside.getModifiers()));
            privateNames(inside);
        }
        Due.end();
    }

    private static String sign(Method m) {
        StringBuilder text = new StringBuilder(m.getReturnType() + " " + m.getName() + "(");
        for (Class<?> p : m.getParameterTypes()) {
            text.append(text.charAt(text.length() - 1) == '(' ? "" : ",").append(p);
        }
        return text.append(")").toString();
    }

    private static Set<String> visibleMethods(Class<?> face) {
        Set<String> found = new TreeSet<>();
        for (Method m : face.getDeclaredMethods()) {
            if (!Modifier.isPrivate(m.getModifiers())) {
                Due.yes("public " + m, Modifier.isPublic(m.getModifiers()));
                found.add(sign(m));
            }
        }
        return found;
    }

    private static void constructors(Class<?> face) {
        Constructor<?>[] all = face.getDeclaredConstructors();
        Due.is("constructors", all.length, 1);
        Due.yes("public constructor", Modifier.isPublic(all[0].getModifiers()));
        Due.yes("of an int", Arrays.equals(all[0].getParameterTypes(), new Class<?>[] {int.class}));
    }

    private static void fields(Class<?> face) {
        for (Field f : face.getDeclaredFields()) {
            boolean constant = Modifier.isStatic(f.getModifiers()) && Modifier.isFinal(f.getModifiers());
            boolean isNone = f.getName().equals("NONE") && constant;
            Due.yes("private or NONE: " + f, Modifier.isPrivate(f.getModifiers()) || isNone);
        }
    }

    private static void privateNames(Class<?> where) {
        for (Method m : where.getDeclaredMethods()) {
            if (where == UnitThreads.class && Modifier.isPublic(m.getModifiers())) {
                continue;
            }
            for (String known : METHODS) {
                Due.no("a public one's name: " + m, known.contains(" " + m.getName() + "("));
            }
        }
    }
}
