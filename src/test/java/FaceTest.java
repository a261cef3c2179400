import java.lang.reflect.Constructor;
import java.lang.reflect.Field;
import java.lang.reflect.Member;
import java.lang.reflect.Method;
import java.lang.reflect.Modifier;
import java.util.ArrayList;
import java.util.Arrays;
import java.util.List;
import java.util.TreeSet;

/** The public face is the document's, with nothing beside it that another class could see. */
public final class FaceTest {
    private static final Check check = new Check();
    private static final String[] DUE = {
        "at() int", "bySecond(boolean) void IllegalStateException", "clearPath() void", "count() int",
        "delete() int IllegalStateException", "fix() int IllegalStateException",
        "insert(int) int IllegalArgumentException", "next(boolean) int",
        "path(int, int, int, int) boolean IllegalArgumentException", "place() int",
        "replace() boolean IllegalStateException",
        "second(int, int) void IllegalArgumentException IllegalStateException",
        "segment(int, int) int", "twins(int, int) void IllegalArgumentException IllegalStateException",
        "type(int, int, int, int, boolean, boolean) void IllegalArgumentException IllegalStateException",
        "unique(boolean) int", "within(boolean) int IllegalStateException",
        "word(int) int IllegalStateException IndexOutOfBoundsException",
        "work(int, int) void IllegalArgumentException",
    };

    public static void main(String[] args) {
        Class<SegmentTrees> face = SegmentTrees.class;
        check.same("public and final", face.getModifiers(), Modifier.PUBLIC | Modifier.FINAL);
        TreeSet<String> shown = new TreeSet<>();
        for (Method method : face.getDeclaredMethods()) {
            if (isSeen(method)) {
                shown.add(written(method));
            }
        }
        check.isTrue("methods: " + shown, shown.equals(new TreeSet<>(Arrays.asList(DUE))));
        for (Field field : face.getDeclaredFields()) {
            check.isTrue("field " + field, !isSeen(field) || field.getName().equals("NONE"));
            check.isTrue("static state " + field,
                    !Modifier.isStatic(field.getModifiers()) || Modifier.isFinal(field.getModifiers()));
        }
        for (Constructor<?> constructor : face.getDeclaredConstructors()) {
            check.isTrue("public constructor", Modifier.isPublic(constructor.getModifiers()));
            check.same("its parameters", constructor.getParameterCount(), 0);
        }
        check.same("constructors", face.getDeclaredConstructors().length, 1);
        noPrivateMethodBearsAPublicName(face);
        check.end();
    }

    private static void noPrivateMethodBearsAPublicName(Class<?> face) {
        List<Class<?>> all = new ArrayList<>(Arrays.asList(face.getDeclaredClasses()));
        all.add(face);
        TreeSet<String> names = new TreeSet<>();
        for (String due : DUE) {
            names.add(due.substring(0, due.indexOf('(')));
        }
        for (Class<?> one : all) {
            for (Method method : one.getDeclaredMethods()) {
                boolean isFace = Modifier.isPublic(method.getModifiers());
                check.isTrue("name of " + method, isFace || !names.contains(method.getName()));
            }
        }
    }

    private static boolean isSeen(Member member) {
        return !Modifier.isPrivate(member.getModifiers());
    }

    private static String written(Method method) {
        StringBuilder text = new StringBuilder(method.getName());
        text.append('(');
        Class<?>[] parameters = method.getParameterTypes();
        for (int i = 0; i < parameters.length; i++) {
            text.append(i == 0 ? "" : ", ").append(parameters[i].getSimpleName());
        }
        text.append(") ").append(method.getReturnType().getSimpleName());
        for (Class<?> thrown : method.getExceptionTypes()) {
            text.append(' ').append(thrown.getSimpleName());
        }
        return text.toString();
    }
}
