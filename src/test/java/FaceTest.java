import java.lang.reflect.Constructor;
import java.lang.reflect.Field;
import java.lang.reflect.Method;
import java.lang.reflect.Modifier;
import java.util.Arrays;
import java.util.Set;
import java.util.TreeSet;

/** The public face of the document, and rules 1 and 5 of LANGUAGE.md as far as the class shows them. */
public final class FaceTest {
    private static final Set<String> FACE = new TreeSet<>(Arrays.asList(
        "boolean put(long, int)", "long hash(int)", "int add()", "boolean change(int)", "int drop()",
        "long root(int)", "int way(int)", "long beside(int, int, int)", "int isLeft(int, int)",
        "int proves(int)", "int count(int)"));

    private static final Due due = new Due();

    public static void main(String[] args) {
        Class<?> desk = RootDesk.class;
        due.is("the class is public and final", desk.getModifiers() == (Modifier.PUBLIC | Modifier.FINAL), true);
        methods(desk);
        constructors(desk);
        fields(desk);
        for (Class<?> inside : desk.getDeclaredClasses()) {
            due.is(inside + " is static", Modifier.isStatic(inside.getModifiers()), true);
            due.is(inside + " is open", inside.getModifiers() & (Modifier.PUBLIC | Modifier.PROTECTED), 0);
            staticFieldsAreFinal(inside);
        }
        due.end();
    }

    private static void methods(Class<?> desk) {
        Set<String> open = new TreeSet<>();
        Set<String> openNames = new TreeSet<>();
        for (Method m : desk.getDeclaredMethods()) {
            if (!Modifier.isPrivate(m.getModifiers())) {
                due.is(m + " is public and nothing else", m.getModifiers(), Modifier.PUBLIC);
                due.is(m + " declares no exception", m.getExceptionTypes().length, 0);
                open.add(written(m));
                openNames.add(m.getName());
            }
        }
        due.is("the methods " + open, open.equals(FACE), true);
        for (Method m : desk.getDeclaredMethods()) {
            boolean hidden = Modifier.isPrivate(m.getModifiers());
            due.is(m + " bears a name of the face", hidden && openNames.contains(m.getName()), false);
        }
    }

    private static String written(Method m) {
        StringBuilder text = new StringBuilder();
        for (Class<?> type : m.getParameterTypes()) {
            text.append(text.length() == 0 ? "" : ", ").append(type.getSimpleName());
        }
        return m.getReturnType().getSimpleName() + " " + m.getName() + "(" + text + ")";
    }

    private static void constructors(Class<?> desk) {
        Constructor<?>[] all = desk.getDeclaredConstructors();
        due.is("constructors", all.length, 1);
        due.is("the constructor's modifiers", all[0].getModifiers(), Modifier.PUBLIC);
        due.is("the constructor's parameters", all[0].getParameterCount(), 0);
    }

    private static void fields(Class<?> desk) {
        for (Field f : desk.getDeclaredFields()) {
            due.is(f + " is private", Modifier.isPrivate(f.getModifiers()), true);
        }
        staticFieldsAreFinal(desk);
    }

    private static void staticFieldsAreFinal(Class<?> type) {
        for (Field f : type.getDeclaredFields()) {
            if (Modifier.isStatic(f.getModifiers())) {
                due.is(f + " is final", Modifier.isFinal(f.getModifiers()), true);
            }
        }
    }
}
