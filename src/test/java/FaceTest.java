import java.lang.reflect.Constructor;
import java.lang.reflect.Field;
import java.lang.reflect.Method;
import java.lang.reflect.Modifier;
import java.util.Arrays;
import java.util.TreeSet;

/** The class shows what the document's face has, and nothing else. */
public final class FaceTest {
    private static final String[] METHODS = {
        "int cries(int,int,int,int)", "int kind(int,int)", "int ofDay(int,int)", "int add(int,int)",
        "int within(int,int)", "int leftOut()", "int said(int)", "int putIn(int,int,boolean,int)",
        "long ways(int,int)", "int place(int,int,int,int)", "int mayBe(int)", "int both(int,int,int)",
        "long shortest(int,int,int)", "int three(int,int,int)", "long lostDay(int,int,int)", "long roots(int,int)",
        "int breaths(int,int)", "int once(int,int,int)", "int twice(int)", "int sheet(int,int,int)", "int lose(int)",
        "int put(int,int,int)", "long cell(int,int,int)", "int copy(int,int,int,int,int)", "int tell(int)",
        "int sing(int)", "int as(int,int)", "int trace()", "int fault()", "int many()"};
    private static final Check C = new Check();

    public static void main(String[] args) throws ReflectiveOperationException {
        Class<?> face = AddedCries.class;
        C.due("modifiers", face.getModifiers(), Modifier.PUBLIC | Modifier.FINAL);
        constants();
        methods(face);
        fields(face);
        Constructor<?>[] made = face.getDeclaredConstructors();
        C.due("constructors", made.length, 1);
        C.due("constructor", made[0].getModifiers(), Modifier.PUBLIC);
        C.due("it takes nothing", made[0].getParameterCount(), 0);
        for (Class<?> inside : face.getDeclaredClasses()) {
            C.holds("static " + inside, Modifier.isStatic(inside.getModifiers()));
            C.holds("not seen from outside " + inside, isHidden(inside.getModifiers()) || isOfPackage(inside.getModifiers()));
        }
        C.holds("some twelve classes", face.getDeclaredClasses().length <= 12);
        C.end();
    }

    private static void constants() {
        C.due("UNKNOWN", AddedCries.UNKNOWN, -1);
        C.due("OUTSIDE", AddedCries.OUTSIDE, -2);
        C.due("STATE", AddedCries.STATE, -3);
        C.due("FULL", AddedCries.FULL, -4);
        C.due("NONE", AddedCries.NONE, -9);
        C.due("LOST", AddedCries.LOST, Long.MIN_VALUE);
    }

    private static void methods(Class<?> face) {
        TreeSet<String> shown = new TreeSet<>();
        TreeSet<String> names = new TreeSet<>();
        for (Method m : face.getDeclaredMethods()) {
            if (!isHidden(m.getModifiers())) {
                C.due("modifiers of " + m, m.getModifiers(), Modifier.PUBLIC);
                shown.add(signature(m));
                names.add(m.getName());
            }
        }
        C.holds("methods are " + shown, shown.equals(new TreeSet<>(Arrays.asList(METHODS))));
        hiddenNames(face, names);
        for (Class<?> inside : face.getDeclaredClasses()) {
            hiddenNames(inside, names);
        }
    }

    private static void hiddenNames(Class<?> owner, TreeSet<String> names) {
        for (Method m : owner.getDeclaredMethods()) {
            boolean same = names.contains(m.getName()) && !Modifier.isPublic(m.getModifiers());
            C.holds("no name of a public method: " + m, !same);
            C.holds("at most seven parameters: " + m, m.getParameterCount() <= 7);
        }
    }

    private static String signature(Method m) {
        StringBuilder text = new StringBuilder(m.getReturnType().getName()).append(' ').append(m.getName()).append('(');
        for (Class<?> p : m.getParameterTypes()) {
            text.append(text.charAt(text.length() - 1) == '(' ? "" : ",").append(p.getName());
        }
        return text.append(')').toString();
    }

    private static void fields(Class<?> face) {
        TreeSet<String> shown = new TreeSet<>();
        for (Field f : face.getDeclaredFields()) {
            if (!isHidden(f.getModifiers())) {
                C.due("modifiers of " + f, f.getModifiers(), Modifier.PUBLIC | Modifier.STATIC | Modifier.FINAL);
                C.holds("type of " + f, f.getType() == (f.getName().equals("LOST") ? long.class : int.class));
                shown.add(f.getName());
            }
            C.holds("static only if final: " + f, !Modifier.isStatic(f.getModifiers()) || Modifier.isFinal(f.getModifiers()));
        }
        C.holds("constants are " + shown,
            shown.equals(new TreeSet<>(Arrays.asList("UNKNOWN", "OUTSIDE", "STATE", "FULL", "NONE", "LOST"))));
    }

    private static boolean isHidden(int modifiers) {
        return Modifier.isPrivate(modifiers);
    }

    private static boolean isOfPackage(int modifiers) {
        return !Modifier.isPublic(modifiers) && !Modifier.isProtected(modifiers);
    }
}
