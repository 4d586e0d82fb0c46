import java.lang.reflect.Constructor;
import java.lang.reflect.Field;
import java.lang.reflect.Method;
import java.lang.reflect.Modifier;
import java.util.Set;
import java.util.TreeSet;

/** The face is that of the document, and nothing more. */
public final class FaceTest {
    private static final String[] FACE = {
        "int come() ISE", "int leave(int) IOB ISE", "int enter(int) IOB ISE", "int rest(int) IOB ISE",
        "int ring() ISE", "int grow(int,int) IOB IAE ISE", "int note(int,int,int) IOB ISE",
        "int pin(int,int) IOB ISE", "int loosen(int,int) IOB ISE", "int look(int,int) IOB ISE",
        "int take(int,int) IOB ISE", "int swap(int,int,int) IOB IAE ISE", "int rake(int) IOB ISE",
        "int set(int,int) IOB IAE", "int append(int) IAE ISE", "int clearBuffer()", "int firstError()",
        "int obey() IAE", "int keep()", "int goBack() ISE", "int undo() ISE", "int branch(int) IOB",
        "int leaf(int,int) IOB IAE", "int child(int,int) IOB IAE", "int hook(int,int,int) IOB IAE",
        "int heap(int,int) IOB IAE", "int count(int) IAE", "int setting(int) IOB", "int why(int) IOB",
        "int ifRaked(int,int) IOB IAE", "int bestRake()", "int ifLoosened(int,int) IOB", "int late()",
        "int ifRested(int) IOB", "int ifAllRested()", "int mostHeld()", "double burntShare()",
        "float fullness()", "long digest()"};

    public static void main(String[] args) {
        Class<?> face = PinnedLeaves.class;
        Due.is("public and final", face.getModifiers() & (Modifier.PUBLIC | Modifier.FINAL),
                Modifier.PUBLIC | Modifier.FINAL);
        Due.is("NONE", PinnedLeaves.NONE, -1);
        methods(face);
        Set<String> fields = new TreeSet<>();
        for (Field field : face.getDeclaredFields()) {
            if (!Modifier.isPrivate(field.getModifiers())) {
                fields.add(field.getName());
            }
        }
        Due.isText("fields that are not private", fields.toString(), "[NONE]");
        int constructors = 0;
        for (Constructor<?> constructor : face.getDeclaredConstructors()) {
            constructors++;
            Due.is("parameters of the constructor", constructor.getParameterCount(), 0);
            Due.is("the constructor is public", Modifier.isPublic(constructor.getModifiers()) ? 1 : 0, 1);
        }
        Due.is("constructors", constructors, 1);
        Due.end("FaceTest");
    }

    private static void methods(Class<?> face) {
        Set<String> due = new TreeSet<>(Set.of(FACE));
        Set<String> got = new TreeSet<>();
        Set<String> names = new TreeSet<>();
        for (Method method : face.getDeclaredMethods()) {
            if (!Modifier.isPrivate(method.getModifiers())) {
                got.add(written(method));
                names.add(method.getName());
                Due.is(method + " is public", Modifier.isPublic(method.getModifiers()) ? 1 : 0, 1);
            }
        }
        Due.isText("the methods", got.toString(), due.toString());
        for (Method method : face.getDeclaredMethods()) {
            if (Modifier.isPrivate(method.getModifiers()) && names.contains(method.getName())) {
                Due.tell("a private method bears the name of a public one: " + method);
            }
        }
    }

    private static String written(Method method) {
        StringBuilder text = new StringBuilder();
        text.append(method.getReturnType()).append(' ').append(method.getName()).append('(');
        String comma = "";
        for (Class<?> type : method.getParameterTypes()) {
            text.append(comma).append(type);
            comma = ",";
        }
        text.append(')');
        for (Class<?> type : method.getExceptionTypes()) {
            text.append(type == IndexOutOfBoundsException.class ? " IOB"
                    : type == IllegalArgumentException.class ? " IAE"
                    : type == IllegalStateException.class ? " ISE" : " " + type);
        }
        return text.toString();
    }
}
