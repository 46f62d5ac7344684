import java.lang.reflect.Constructor;
import java.lang.reflect.Field;
import java.lang.reflect.Method;
import java.lang.reflect.Modifier;
import java.util.Arrays;
import java.util.Set;
import java.util.TreeSet;

/** The public face: just what the document says, and nothing else that can be seen from outside. */
final class FaceTest {
    private static final Check check = new Check();
    private static final String[] FACE = {
        "int addPlayer(int,int,int,int) IllegalArgumentException IllegalStateException",
        "int found(int) IllegalArgumentException IllegalStateException",
        "int seat(int,int,int) IndexOutOfBoundsException IllegalStateException",
        "int change(int,int,int) IndexOutOfBoundsException",
        "int absent(int,int) IndexOutOfBoundsException IllegalArgumentException",
        "int rehearse(int) IndexOutOfBoundsException",
        "int setPiece(int,int) IndexOutOfBoundsException IllegalArgumentException",
        "int setTaste(int,int) IndexOutOfBoundsException IllegalArgumentException",
        "int player(int,int) IndexOutOfBoundsException",
        "int band(int,int) IndexOutOfBoundsException",
        "int chair(int,int,int) IndexOutOfBoundsException",
        "int contest() IllegalStateException",
        "int rank(int) IndexOutOfBoundsException",
        "int count(int) IndexOutOfBoundsException",
        "int foresee(int,int,int) IndexOutOfBoundsException IllegalArgumentException",
        "int advise(int) IndexOutOfBoundsException",
        "int free(int) IndexOutOfBoundsException",
        "double mean()",
        "long digest()",
    };

    public static void main(String[] args) {
        int modifiers = BandDay.class.getModifiers();
        check.holds("the class is public and final", Modifier.isPublic(modifiers) && Modifier.isFinal(modifiers));
        Constructor<?>[] constructors = BandDay.class.getDeclaredConstructors();
        check.holds("one public constructor without parameters", constructors.length == 1
                && Modifier.isPublic(constructors[0].getModifiers()) && constructors[0].getParameterCount() == 0);
        Set<String> due = new TreeSet<>(Arrays.asList(FACE));
        Set<String> seen = new TreeSet<>();
        Set<String> names = new TreeSet<>();
        for (Method method : BandDay.class.getDeclaredMethods()) {
            if (!Modifier.isPrivate(method.getModifiers())) {
                seen.add(told(method));
                names.add(method.getName());
            }
        }
        check.holds("the face " + seen + " is " + due, seen.equals(due));
        for (Method method : BandDay.class.getDeclaredMethods()) {
            check.holds("no private method is named " + method.getName(),
                    !Modifier.isPrivate(method.getModifiers()) || !names.contains(method.getName()));
        }
        fieldsArePrivate(BandDay.class);
        for (Class<?> inside : BandDay.class.getDeclaredClasses()) {
            check.holds(inside + " is not public, and static",
                    !Modifier.isPublic(inside.getModifiers()) && Modifier.isStatic(inside.getModifiers()));
            for (Method method : inside.getDeclaredMethods()) {
                check.holds(inside + " names no method " + method.getName(), !names.contains(method.getName()));
            }
        }
        check.end();
    }

    private static void fieldsArePrivate(Class<?> type) {
        for (Field field : type.getDeclaredFields()) {
            check.holds(field + " is private", Modifier.isPrivate(field.getModifiers()));
            check.holds(field + " is final, if static",
                    !Modifier.isStatic(field.getModifiers()) || Modifier.isFinal(field.getModifiers()));
        }
    }

    private static String told(Method method) {
        StringBuilder text = new StringBuilder(method.getReturnType() + " " + method.getName() + "(");
        for (int i = 0; i < method.getParameterCount(); i++) {
            text.append(i == 0 ? "" : ",").append(method.getParameterTypes()[i]);
        }
        text.append(")");
        for (Class<?> thrown : method.getExceptionTypes()) {
            text.append(" ").append(thrown.getSimpleName());
        }
        return text.toString();
    }
}
