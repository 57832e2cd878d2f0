import java.lang.reflect.Constructor;
import java.lang.reflect.Field;
import java.lang.reflect.Member;
import java.lang.reflect.Method;
import java.lang.reflect.Modifier;
import java.util.Arrays;
import java.util.Set;
import java.util.TreeSet;

/** The face is that of the document, and nothing more of the class can be seen from outside. */
public final class FaceTest {
    private static final String[] FACE = {
        "int feed(int,long)", "int wipe()", "void units(int,int,int)", "int compile()", "int fault()",
        "int place()", "int told(int)", "int block(int,int)", "int operation(int,int)", "int set(int,int)",
        "int get(int)", "int poke(int,int)", "int peek(int)", "void restart()", "int run(int)", "int at()",
        "long cycles()"};

    public static void main(String[] args) throws ReflectiveOperationException {
        Class<?> face = CycleSynthesis.class;
        Checks.due("the class is public and final",
            face.getModifiers() & (Modifier.PUBLIC | Modifier.FINAL), Modifier.PUBLIC | Modifier.FINAL);
        dueNames("methods", methods(face), FACE);
        dueNames("fields", visible(face.getDeclaredFields()), "NONE");
        Field none = face.getField("NONE");
        Checks.due("NONE is a constant", Modifier.isStatic(none.getModifiers())
            && Modifier.isFinal(none.getModifiers()) && none.getType() == int.class ? 1 : 0, 1);
        Constructor<?>[] constructors = face.getDeclaredConstructors();
        Checks.due("constructors", constructors.length, 1);
        Checks.due("its parameters", constructors[0].getParameterCount(), 0);
        Checks.due("it is public", constructors[0].getModifiers() & Modifier.PUBLIC, Modifier.PUBLIC);
        for (Class<?> inside : face.getDeclaredClasses()) {
            Checks.due(inside + " is private and static", inside.getModifiers() & (Modifier.PRIVATE | Modifier.STATIC),
                Modifier.PRIVATE | Modifier.STATIC);
        }
        Checks.due("classes inside, twelve at most", Math.max(12, face.getDeclaredClasses().length), 12);
        Checks.finish();
    }

    private static Set<String> methods(Class<?> face) {
        Set<String> found = new TreeSet<>();
        for (Method method : face.getDeclaredMethods()) {
            if (!Modifier.isPrivate(method.getModifiers()) && !method.isSynthetic()) {
                String parameters = Arrays.toString(method.getParameterTypes()).replaceAll("[\\[\\] ]", "");
                found.add(method.getReturnType() + " " + method.getName() + "(" + parameters + ")");
            }
        }
        return found;
    }

    private static Set<String> visible(Member[] members) {
        Set<String> found = new TreeSet<>();
        for (Member member : members) {
            if (!Modifier.isPrivate(member.getModifiers()) && !member.isSynthetic()) {
                found.add(member.getName());
            }
        }
        return found;
    }

    private static void dueNames(String what, Set<String> got, String... want) {
        Set<String> due = new TreeSet<>(Arrays.asList(want));
        Checks.due(what + " " + got, got.equals(due) ? 1 : 0, 1);
    }
}
