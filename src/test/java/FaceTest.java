import java.lang.reflect.Constructor;
import java.lang.reflect.Field;
import java.lang.reflect.Method;
import java.lang.reflect.Modifier;
import java.util.Arrays;
import java.util.List;
import java.util.StringJoiner;
import java.util.TreeSet;

/** The face: exactly what the document lists is public, with its throws clauses, and nothing else is visible. */
public final class FaceTest {
    private static final List<String> METHODS = Arrays.asList(
        "int machine(int) IllegalArgumentException IllegalStateException",
        "boolean down(int, boolean) IndexOutOfBoundsException",
        "int quota(int, int) IndexOutOfBoundsException IllegalArgumentException",
        "int limit(int) IllegalArgumentException",
        "int write(int, int, int) IndexOutOfBoundsException IllegalArgumentException IllegalStateException",
        "int take(int) IndexOutOfBoundsException IllegalStateException",
        "int read(int) IndexOutOfBoundsException IllegalStateException",
        "int split(int) IndexOutOfBoundsException IllegalStateException",
        "int join(int) IndexOutOfBoundsException IllegalStateException",
        "int move(int, int) IndexOutOfBoundsException IllegalStateException",
        "int callOff(int) IndexOutOfBoundsException IllegalStateException",
        "int pass(int) IllegalArgumentException IllegalStateException",
        "int hour()",
        "int shards()",
        "int shardOf(int) IndexOutOfBoundsException",
        "int shard(int, int) IndexOutOfBoundsException IllegalArgumentException",
        "int machineOf(int, int) IndexOutOfBoundsException IllegalArgumentException",
        "int tenant(int, int) IndexOutOfBoundsException IllegalArgumentException",
        "int billAnew(int) IndexOutOfBoundsException",
        "int whereAnew(int) IndexOutOfBoundsException",
        "int moves(boolean)");

    public static void main(String[] args) {
        Class<?> face = ShardHarbour.class;
        Due.is("the class is public and final",
            Modifier.isPublic(face.getModifiers()) && Modifier.isFinal(face.getModifiers()), true);
        Due.is("NONE", ShardHarbour.NONE, -1);
        methodsAreThose(face);
        fieldsAreThose(face);
        constructorsAreThose(face);
        for (Class<?> inside : face.getDeclaredClasses()) {
            Due.is(inside + " is static and not public or protected", Modifier.isStatic(inside.getModifiers())
                && (inside.getModifiers() & (Modifier.PUBLIC | Modifier.PROTECTED)) == 0, true);
        }
        Due.end();
    }

    private static void methodsAreThose(Class<?> face) {
        TreeSet<String> visible = new TreeSet<>();
        TreeSet<String> publicNames = new TreeSet<>();
        for (Method method : face.getDeclaredMethods()) {
            if (!Modifier.isPrivate(method.getModifiers()) && !method.isSynthetic()) {
                visible.add((Modifier.isPublic(method.getModifiers()) ? "" : "not public ") + written(method));
                publicNames.add(method.getName());
            }
        }
        Due.same("the visible methods", visible, new TreeSet<>(METHODS));
        for (Method method : face.getDeclaredMethods()) {
            if (Modifier.isPrivate(method.getModifiers())) {
                Due.is("private " + method.getName() + " has the name of a public one",
                    publicNames.contains(method.getName()), false);
            }
        }
    }

    private static void fieldsAreThose(Class<?> face) {
        for (Field field : face.getDeclaredFields()) {
            boolean isVisible = !Modifier.isPrivate(field.getModifiers());
            Due.is("the field " + field.getName() + " is visible", isVisible, field.getName().equals("NONE"));
            if (Modifier.isStatic(field.getModifiers())) {
                Due.is(field.getName() + " is final", Modifier.isFinal(field.getModifiers()), true);
            }
        }
    }

    private static void constructorsAreThose(Class<?> face) {
        Constructor<?>[] all = face.getDeclaredConstructors();
        Due.is("the constructors", all.length, 1);
        Due.is("the constructor's parameters", all[0].getParameterCount(), 0);
        Due.is("the constructor is public", Modifier.isPublic(all[0].getModifiers()), true);
    }

    private static String written(Method method) {
        StringJoiner parameters = new StringJoiner(", ", "(", ")");
        for (Class<?> parameter : method.getParameterTypes()) {
            parameters.add(parameter.getSimpleName());
        }
        StringBuilder text = new StringBuilder();
        text.append(method.getReturnType().getSimpleName()).append(' ').append(method.getName());
        text.append(parameters);
        for (Class<?> thrown : method.getExceptionTypes()) {
            text.append(' ').append(thrown.getSimpleName());
        }
        return text.toString();
    }
}
