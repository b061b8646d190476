import java.lang.reflect.Constructor;
import java.lang.reflect.Field;
import java.lang.reflect.Method;
import java.lang.reflect.Modifier;
import java.util.Set;
import java.util.TreeSet;

/** The public face is the document's, and nothing else can be seen from outside. */
public final class FaceTest {
    private static final String[] FACE = {
        "note(int,int,int,int,int)", "rest(int,int,int)", "lift(int,int)", "set(int,int,int)",
        "mark(int,int,int,int)", "drop(int)", "slur(int,int,int,int)", "place()",
        "at(int,int) throws", "slurAt(int,int) throws", "skyline(int,int) throws",
        "row(int,int) throws", "order(int,int,int) throws", "meets(int,int) throws",
        "wide(int)", "push(int)", "item(int,int)", "count(int) throws"
    };

    public static void main(String[] args) {
        Check check = new Check();
        int shape = StackMarks.class.getModifiers();
        check.isTrue("public", Modifier.isPublic(shape));
        check.isTrue("final", Modifier.isFinal(shape));
        constants(check);
        constructors(check);
        methods(check);
        fields(check);
        classes(check);
        check.end();
    }

    private static void constants(Check check) {
        check.due("BAD", StackMarks.BAD, -100001);
        check.due("FULL", StackMarks.FULL, -100002);
        check.due("NONE", StackMarks.NONE, -100003);
    }

    private static void constructors(Check check) {
        Constructor<?>[] all = StackMarks.class.getDeclaredConstructors();
        check.due("constructors", all.length, 1);
        check.isTrue("public constructor", Modifier.isPublic(all[0].getModifiers()));
        check.due("its parameters", all[0].getParameterCount(), 0);
    }

    private static void methods(Check check) {
        Set<String> seen = new TreeSet<>();
        for (Method m : StackMarks.class.getDeclaredMethods()) {
            if (Modifier.isPublic(m.getModifiers())) {
                seen.add(face(m));
                check.isTrue(m + " answers an int", m.getReturnType() == int.class);
                check.isTrue(m + " is no static method", !Modifier.isStatic(m.getModifiers()));
            } else {
                check.isTrue(m + " is private", Modifier.isPrivate(m.getModifiers()));
            }
        }
        check.due("the face", seen.toString(), new TreeSet<>(Set.of(FACE)).toString());
    }

    private static String face(Method m) {
        StringBuilder text = new StringBuilder(m.getName()).append('(');
        for (int i = 0; i < m.getParameterCount(); i++) {
            text.append(i == 0 ? "" : ",").append(m.getParameterTypes()[i].getName());
        }
        text.append(')');
        for (Class<?> thrown : m.getExceptionTypes()) {
            text.append(thrown == IllegalStateException.class ? " throws" : " throws something else");
        }
        return text.toString();
    }

    private static void fields(Check check) {
        Set<String> constants = Set.of("BAD", "FULL", "NONE");
        for (Field f : StackMarks.class.getDeclaredFields()) {
            int shape = f.getModifiers();
            boolean isPublic = constants.contains(f.getName());
            check.isTrue(f + " is as visible as it should be",
                    isPublic ? Modifier.isPublic(shape) : Modifier.isPrivate(shape));
        }
    }

    private static void classes(Check check) {
        for (Class<?> inside : StackMarks.class.getDeclaredClasses()) {
            int shape = inside.getModifiers();
            check.isTrue(inside + " is static", Modifier.isStatic(shape));
            check.isTrue(inside + " is not to be seen from outside",
                    !Modifier.isPublic(shape) && !Modifier.isProtected(shape));
        }
    }
}
