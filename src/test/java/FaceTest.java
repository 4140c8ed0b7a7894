import java.lang.reflect.Constructor;
import java.lang.reflect.Field;
import java.lang.reflect.Method;
import java.lang.reflect.Modifier;
import java.util.Arrays;
import java.util.TreeSet;

/** The public face: the document's members and no others. */
public final class FaceTest {
    private static final String[] METHODS = {
        "int row(int,int,int,int,int)", "int right(int,int,int)", "int strike(int,int)", "int about(int,int)",
        "int sum(int,int,int)", "int change(int,int)", "int rate(int,int,int)", "long shift(int,int)",
        "long part(int,int,int,int,int)", "int moves(int,int)", "int move(int,int)", "int rounded(int,int,int,int)",
        "int factor(int,int,int)", "int outcome(int)", "int share(int,int)", "int expect(int)", "int seek(int,int)",
        "int story(int)", "int toll(int,int,int)", "int first(int,int)", "int count(int)"};
    private static final String[] CONSTANTS = {"int NONE", "int FULL", "int STATE", "long NO"};

    public static void main(String[] args) {
        Class<?> face = SumMoved.class;
        Due.holds("public and final", face.getModifiers() == (Modifier.PUBLIC | Modifier.FINAL));
        methods(face);
        constants(face);
        Constructor<?>[] made = face.getDeclaredConstructors();
        Due.holds("one public constructor without arguments", made.length == 1
                && made[0].getParameterCount() == 0 && Modifier.isPublic(made[0].getModifiers()));
        for (Class<?> inside : face.getDeclaredClasses()) {
            int bits = inside.getModifiers();
            Due.holds(inside + " is static, not public", Modifier.isStatic(bits)
                    && !Modifier.isPublic(bits) && !Modifier.isProtected(bits));
        }
        Due.end();
    }

    private static void methods(Class<?> face) {
        TreeSet<String> open = new TreeSet<>(), openNames = new TreeSet<>();
        for (Method m : face.getDeclaredMethods()) {
            if (!Modifier.isPrivate(m.getModifiers())) {
                StringBuilder text = new StringBuilder();
                for (Class<?> p : m.getParameterTypes()) {
                    text.append(text.length() == 0 ? "" : ",").append(p);
                }
                open.add(m.getReturnType() + " " + m.getName() + "(" + text + ")");
                openNames.add(m.getName());
            }
        }
        Due.holds("the methods are " + open, open.equals(new TreeSet<>(Arrays.asList(METHODS))));
        for (Method m : face.getDeclaredMethods()) {
            Due.holds("no private method has a public one's name: " + m.getName(),
                    !Modifier.isPrivate(m.getModifiers()) || !openNames.contains(m.getName()));
        }
    }

    private static void constants(Class<?> face) {
        TreeSet<String> open = new TreeSet<>();
        int bits = Modifier.PUBLIC | Modifier.STATIC | Modifier.FINAL;
        for (Field f : face.getDeclaredFields()) {
            if (!Modifier.isPrivate(f.getModifiers())) {
                Due.holds(f + " is a public constant", f.getModifiers() == bits);
                open.add(f.getType() + " " + f.getName());
            }
        }
        Due.holds("the constants are " + open, open.equals(new TreeSet<>(Arrays.asList(CONSTANTS))));
        Due.is("NONE", SumMoved.NONE, -1);
        Due.is("FULL", SumMoved.FULL, -2);
        Due.is("STATE", SumMoved.STATE, -3);
        Due.is("NO", SumMoved.NO, -4000000000000000000L);
    }
}
