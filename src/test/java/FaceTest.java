import java.lang.reflect.Field;
import java.lang.reflect.Method;
import java.lang.reflect.Modifier;
import java.util.Arrays;
import java.util.HashSet;
import java.util.Set;
import java.util.TreeSet;

/** The public face of the document, and rule 1 of LANGUAGE.md, which speaks of it. */
public final class FaceTest {
    static final String[] FACE = {
        "int feed(int, long) IllegalArgumentException",
        "int wipe()",
        "int let(int) IllegalArgumentException",
        "void begin(int, int) IndexOutOfBoundsException IllegalArgumentException",
        "int absorb(int) IndexOutOfBoundsException IllegalStateException",
        "int bytes(int, int, long) IndexOutOfBoundsException IllegalArgumentException IllegalStateException",
        "void end(int, int) IndexOutOfBoundsException IllegalArgumentException IllegalStateException",
        "long squeeze(int, int) IndexOutOfBoundsException IllegalArgumentException IllegalStateException",
        "int left(int) IndexOutOfBoundsException",
        "void copy(int, int) IndexOutOfBoundsException",
        "int kind(int) IndexOutOfBoundsException",
        "boolean same(int, int, int) IndexOutOfBoundsException IllegalArgumentException IllegalStateException",
    };

    public static void main(String[] args) {
        members();
        names(SpongeDesk.class);
        insides();
        Check.close();
    }

    private static void members() {
        Check.yes("the class is public and final",
            Modifier.isPublic(SpongeDesk.class.getModifiers()) && Modifier.isFinal(SpongeDesk.class.getModifiers()));
        Check.same("constructors", SpongeDesk.class.getDeclaredConstructors().length, 1);
        Check.same("public constructor's parameters", SpongeDesk.class.getConstructors()[0].getParameterCount(), 0);
        Set<String> face = new TreeSet<>();
        for (Method method : SpongeDesk.class.getDeclaredMethods()) {
            if (!Modifier.isPrivate(method.getModifiers())) {
                face.add(told(method));
                Check.same("modifiers of " + method.getName(), Modifier.toString(method.getModifiers()), "public");
            }
        }
        Check.same("the methods", face, new TreeSet<>(Arrays.asList(FACE)));
        Set<String> constants = new TreeSet<>();
        for (Field field : SpongeDesk.class.getDeclaredFields()) {
            if (!Modifier.isPrivate(field.getModifiers())) {
                constants.add(Modifier.toString(field.getModifiers()) + " " + field.getType() + " " + field.getName());
            }
        }
        Check.same("the constants", constants, Set.of("public static final int NONE"));
    }

    private static String told(Method method) {
        StringBuilder text = new StringBuilder();
        text.append(method.getReturnType()).append(' ').append(method.getName()).append('(');
        for (int i = 0; i < method.getParameterCount(); i++) {
            text.append(i == 0 ? "" : ", ").append(method.getParameterTypes()[i]);
        }
        text.append(')');
        for (Class<?> thrown : method.getExceptionTypes()) {
            text.append(' ').append(thrown.getSimpleName());
        }
        return text.toString();
    }

    private static void names(Class<?> type) {
        Set<String> open = new HashSet<>();
        for (Method method : SpongeDesk.class.getMethods()) {
            open.add(method.getName());
        }
        for (Method method : type.getDeclaredMethods()) {
            if (!Modifier.isPublic(method.getModifiers())) {
                Check.no("a method inside bears a public name: " + method, open.contains(method.getName()));
            }
        }
    }

    private static void insides() {
        for (Class<?> inside : SpongeDesk.class.getDeclaredClasses()) {
            names(inside);
        }
    }
}
